/-! THE WORDS of the tables that the methods need: all good ones -/
def excI (E : Nat) : Nat := if E = 1 then 13 else 7
def excB (E : Nat) : ByteArray := if E = 1 then prog_32_method_4_code else Bundle.six
/-- words of a throw that stand when the tables warm, but not as good words do -/
def NGW : List Cond := [.castable (excN 1) (excN 1), .castable (excN 2) (excN 2), .castable (excN 3) (excN 3), .castable (excN 4) (excN 4), .declares (Bundle.initS xt_R), .declares (Bundle.initS "java/lang/Exception"), .declares (Bundle.initS Bundle.tN)]
def callW (own : Nat) (q : Nat × (Nat × Bool × Nat)) : List Cond := [.methodLink (ownN own) q.1 (mY q.2.1), .initialized (mY q.2.1).cls] ++ (if q.2.2.1 = true then [.static (mY q.2.1)] else [.instanceMethod (mY q.2.1), .selects (mY q.2.1).cls (mY q.2.1) (mY q.2.1)])
def GBc (o : Nat) : List Cond := (CLt o).flatMap (callW o)
def fldW (own : Nat) (q : Nat × (Nat × Nat)) : Cond := .fieldLink (ownN own) q.1 ((cTb q.2.1).2.1 q.2.2).1 ((cTb q.2.1).2.1 q.2.2).2.1 ((cTb q.2.1).2.1 q.2.2).2.2.1
def GBf (o : Nat) : List Cond := (FLt o).map (fldW o)
def GBl : List Cond := vwCl.flatMap (fun q => u_ws q.1 q.2.1 q.2.2)
def GBk (o : Nat) : List Cond := (KIt o).map (fun q => .constant (ownN o) q.1 (Int32.ofInt q.2)) ++ (KJt o).map (fun q => .constantLong (ownN o) q.1 (Int64.ofInt q.2))
def GBx (E : Nat) : List Cond := .classLink RX10 (excK E) (excN E) :: .initialized (excN E) :: (xt_A RX10 (excC E) (excN E) (excI E) (excB E)).filter goodWord
def GBy (o : Nat) : List Cond := (CPt o).map (fun q => .methodLink (ownN o) q.1 arraycopyName)
def mxN (op : Nat) : MethodName := match op with | 0 => Lib.Math.max.name | 1 => Lib.Math.min.name | 2 => Lib.MathLoose.max_long.x | _ => Lib.MathLoose.abs_long.x
def GBm (o : Nat) : List Cond := (MXt o).map (fun q => .methodLink (ownN o) q.1 (mxN q.2))
def GBn : List Cond := [.static Lib.Math.max.name, .static Lib.Math.min.name, .static Lib.MathLoose.max_long.x, .static Lib.MathLoose.abs_long.x, .code Lib.Math.max.name Lib.Math.max.code 2 (some .int), .code Lib.Math.min.name Lib.Math.min.code 2 (some .int), .code Lib.MathLoose.max_long.x Lib.MathLoose.max_long.code 4 (some .long), .code Lib.MathLoose.abs_long.x Lib.MathLoose.abs_long.code 2 (some .long), .initialized "java/lang/Math"]
def GBs : List Cond := [.fieldLink RX3 9 "PrimeCoins$Numbers" "PRIMES" "[I", .fieldLink RJ0 38 "java/lang/String" "COMPACT_STRINGS" "Z", .fieldLink RJ0 1053 "jdk/internal/util/Preconditions" "SIOOBE_FORMATTER" "Ljava/util/function/BiFunction;", .fieldLink RJ0 9 "java/lang/String" "value" "[B", .fieldLink RJ0 15 "java/lang/String" "coder" "B", .native arraycopyName, .static arraycopyName, .initialized "java/lang/System"]
def gbT (w : Cond) : Bool := decide (w ∈ lw_tbl) && goodWord w
def tbk (k : Nat) : List Cond := match k with
  | 0 => k2_sels lw_privs
  | 1 => tables_1_1
  | 2 => tables_1_2
  | 3 => tables_1_3
  | 4 => tables_1_4
  | 5 => tables_1_5
  | 6 => tables_1_6
  | 7 => tables_1_7
  | 8 => tables_1_8
  | 9 => tables_1_9
  | _ => []
def gbA (w : Cond) (q : Nat × Nat) : Bool := decide ((tbk q.1)[q.2]? = some w) && goodWord w
def gbZ : List Cond → List (Nat × Nat) → Bool
  | [], _ => true
  | w :: ws, q :: qs => gbA w q && gbZ ws qs
  | _ :: _, [] => false
theorem tbk_in {k : Nat} {w : Cond} (h : w ∈ tbk k) : w ∈ lw_tbl := by
  unfold tbk at h
  unfold lw_tbl tables_1
  split at h
  · exact List.mem_append_left _ h
  · exact List.mem_append_right _ (List.mem_append_left _ h)
  · exact List.mem_append_right _ (List.mem_append_right _ (List.mem_append_left _ h))
  · exact List.mem_append_right _ (List.mem_append_right _ (List.mem_append_right _ (List.mem_append_left _ h)))
  · exact List.mem_append_right _ (List.mem_append_right _ (List.mem_append_right _ (List.mem_append_right _ (List.mem_append_left _ h))))
  · exact List.mem_append_right _ (List.mem_append_right _ (List.mem_append_right _ (List.mem_append_right _ (List.mem_append_right _ (List.mem_append_left _ h)))))
  · exact List.mem_append_right _ (List.mem_append_right _ (List.mem_append_right _ (List.mem_append_right _ (List.mem_append_right _ (List.mem_append_right _ (List.mem_append_left _ h))))))
  · exact List.mem_append_right _ (List.mem_append_right _ (List.mem_append_right _ (List.mem_append_right _ (List.mem_append_right _ (List.mem_append_right _ (List.mem_append_right _ (List.mem_append_left _ h)))))))
  · exact List.mem_append_right _ (List.mem_append_right _ (List.mem_append_right _ (List.mem_append_right _ (List.mem_append_right _ (List.mem_append_right _ (List.mem_append_right _ (List.mem_append_right _ (List.mem_append_left _ h))))))))
  · exact List.mem_append_right _ (List.mem_append_right _ (List.mem_append_right _ (List.mem_append_right _ (List.mem_append_right _ (List.mem_append_right _ (List.mem_append_right _ (List.mem_append_right _ (List.mem_append_right _ h))))))))
  · cases h
theorem gbZ_ok : ∀ {L : List Cond} {P : List (Nat × Nat)}, gbZ L P = true → ∀ w ∈ L, w ∈ lw_tbl ∧ goodWord w = true := by
  intro L
  induction L with
  | nil => intro P _ w h; cases h
  | cons v L ih =>
    intro P h w hw
    cases P with
    | nil => cases h
    | cons q P =>
      simp only [gbZ, Bool.and_eq_true] at h
      rcases List.mem_cons.mp hw with rfl | hw
      · have h1 := h.1
        simp only [gbA, Bool.and_eq_true, decide_eq_true_eq] at h1
        exact ⟨tbk_in (List.mem_of_getElem? h1.1), h1.2⟩
      · exact ih h.2 w hw
def codeW (k : Nat) : List Cond := (List.range (min 50 (NM - 50 * k))).map (fun i => Cond.code (mY (50 * k + i)) (mC (50 * k + i)) (mL (50 * k + i)) (mR (50 * k + i)))
set_option maxRecDepth 100000 in
theorem gc0 : Cond.code (mY 0) (mC 0) (mL 0) (mR 0) ∈ lw_tbl := tbk_in (k := 5) (List.mem_of_getElem? (i := 212) (rfl : tables_1_5[212]? = some (Cond.code yX0_seek cX0_seek 10 (some .long))))
set_option maxRecDepth 100000 in
theorem gc1 : Cond.code (mY 1) (mC 1) (mL 1) (mR 1) ∈ lw_tbl := tbk_in (k := 5) (List.mem_of_getElem? (i := 217) (rfl : tables_1_5[217]? = some (Cond.code yX0_productOf cX0_productOf 6 (some .long))))
set_option maxRecDepth 100000 in
theorem gc2 : Cond.code (mY 2) (mC 2) (mL 2) (mR 2) ∈ lw_tbl := tbk_in (k := 5) (List.mem_of_getElem? (i := 226) (rfl : tables_1_5[226]? = some (Cond.code yX0_nextRow cX0_nextRow 4 (some .boolean))))
set_option maxRecDepth 100000 in
theorem gc3 : Cond.code (mY 3) (mC 3) (mL 3) (mR 3) ∈ lw_tbl := tbk_in (k := 5) (List.mem_of_getElem? (i := 231) (rfl : tables_1_5[231]? = some (Cond.code yX0_raiseFrom cX0_raiseFrom 4 none)))
set_option maxRecDepth 100000 in
theorem gc4 : Cond.code (mY 4) (mC 4) (mL 4) (mR 4) ∈ lw_tbl := tbk_in (k := 3) (List.mem_of_getElem? (i := 126) (rfl : tables_1_3[126]? = some (Cond.code yX1_forgive cX1_forgive 1 none)))
set_option maxRecDepth 100000 in
theorem gc5 : Cond.code (mY 5) (mC 5) (mL 5) (mR 5) ∈ lw_tbl := tbk_in (k := 3) (List.mem_of_getElem? (i := 204) (rfl : tables_1_3[204]? = some (Cond.code yX1_takeOver cX1_takeOver 2 none)))
set_option maxRecDepth 100000 in
theorem gc6 : Cond.code (mY 6) (mC 6) (mL 6) (mR 6) ∈ lw_tbl := tbk_in (k := 2) (List.mem_of_getElem? (i := 137) (rfl : tables_1_2[137]? = some (Cond.code yX1_isPair cX1_isPair 2 (some .boolean))))
set_option maxRecDepth 100000 in
theorem gc7 : Cond.code (mY 7) (mC 7) (mL 7) (mR 7) ∈ lw_tbl := tbk_in (k := 2) (List.mem_of_getElem? (i := 134) (rfl : tables_1_2[134]? = some (Cond.code yX1_of cX1_of 3 (some .long))))
set_option maxRecDepth 100000 in
theorem gc8 : Cond.code (mY 8) (mC 8) (mL 8) (mR 8) ∈ lw_tbl := tbk_in (k := 2) (List.mem_of_getElem? (i := 148) (rfl : tables_1_2[148]? = some (Cond.code yX1_set cX1_set 5 none)))
set_option maxRecDepth 100000 in
theorem gc9 : Cond.code (mY 9) (mC 9) (mL 9) (mR 9) ∈ lw_tbl := tbk_in (k := 2) (List.mem_of_getElem? (i := 177) (rfl : tables_1_2[177]? = some (Cond.code yX1_aboveOne cX1_aboveOne 3 (some .int))))
set_option maxRecDepth 100000 in
theorem gc10 : Cond.code (mY 10) (mC 10) (mL 10) (mR 10) ∈ lw_tbl := tbk_in (k := 2) (List.mem_of_getElem? (i := 126) (rfl : tables_1_2[126]? = some (Cond.code yX1_strikeAll cX1_strikeAll 3 (some .int))))
set_option maxRecDepth 100000 in
theorem gc11 : Cond.code (mY 11) (mC 11) (mL 11) (mR 11) ∈ lw_tbl := tbk_in (k := 2) (List.mem_of_getElem? (i := 130) (rfl : tables_1_2[130]? = some (Cond.code yX1_strikeTwo cX1_strikeTwo 5 (some .boolean))))
set_option maxRecDepth 100000 in
theorem gc12 : Cond.code (mY 12) (mC 12) (mL 12) (mR 12) ∈ lw_tbl := tbk_in (k := 2) (List.mem_of_getElem? (i := 152) (rfl : tables_1_2[152]? = some (Cond.code yX1_strikeThree cX1_strikeThree 4 (some .boolean))))
set_option maxRecDepth 100000 in
theorem gc13 : Cond.code (mY 13) (mC 13) (mL 13) (mR 13) ∈ lw_tbl := tbk_in (k := 2) (List.mem_of_getElem? (i := 156) (rfl : tables_1_2[156]? = some (Cond.code yX1_strikeRing cX1_strikeRing 6 (some .boolean))))
set_option maxRecDepth 100000 in
theorem gc14 : Cond.code (mY 14) (mC 14) (mL 14) (mR 14) ∈ lw_tbl := tbk_in (k := 2) (List.mem_of_getElem? (i := 144) (rfl : tables_1_2[144]? = some (Cond.code yX1_divide cX1_divide 5 none)))
set_option maxRecDepth 100000 in
theorem gc15 : Cond.code (mY 15) (mC 15) (mL 15) (mR 15) ∈ lw_tbl := tbk_in (k := 4) (List.mem_of_getElem? (i := 173) (rfl : tables_1_4[173]? = some (Cond.code yX2_below cX2_below 2 (some .int))))
set_option maxRecDepth 100000 in
theorem gc16 : Cond.code (mY 16) (mC 16) (mL 16) (mR 16) ∈ lw_tbl := tbk_in (k := 3) (List.mem_of_getElem? (i := 156) (rfl : tables_1_3[156]? = some (Cond.code yX3_isSmallPrime cX3_isSmallPrime 2 (some .boolean))))
set_option maxRecDepth 100000 in
theorem gc17 : Cond.code (mY 17) (mC 17) (mL 17) (mR 17) ∈ lw_tbl := tbk_in (k := 2) (List.mem_of_getElem? (i := 140) (rfl : tables_1_2[140]? = some (Cond.code yX3_commonFactor cX3_commonFactor 11 (some .long))))
set_option maxRecDepth 100000 in
theorem gc18 : Cond.code (mY 18) (mC 18) (mL 18) (mR 18) ∈ lw_tbl := tbk_in (k := 2) (List.mem_of_getElem? (i := 96) (rfl : tables_1_2[96]? = some (Cond.code yX3_whole cX3_whole 5 (some .long))))
set_option maxRecDepth 100000 in
theorem gc19 : Cond.code (mY 19) (mC 19) (mL 19) (mR 19) ∈ lw_tbl := tbk_in (k := 4) (List.mem_of_getElem? (i := 156) (rfl : tables_1_4[156]? = some (Cond.code yX3_power cX3_power 11 (some .long))))
set_option maxRecDepth 100000 in
theorem gc20 : Cond.code (mY 20) (mC 20) (mL 20) (mR 20) ∈ lw_tbl := tbk_in (k := 6) (List.mem_of_getElem? (i := 9) (rfl : tables_1_6[9]? = some (Cond.code yX3_leastFactor cX3_leastFactor 2 (some .int))))
set_option maxRecDepth 100000 in
theorem gc21 : Cond.code (mY 21) (mC 21) (mL 21) (mR 21) ∈ lw_tbl := tbk_in (k := 6) (List.mem_of_getElem? (i := 21) (rfl : tables_1_6[21]? = some (Cond.code yX3_rootAbove cX3_rootAbove 2 (some .int))))
set_option maxRecDepth 100000 in
theorem gc22 : Cond.code (mY 22) (mC 22) (mL 22) (mR 22) ∈ lw_tbl := tbk_in (k := 6) (List.mem_of_getElem? (i := 52) (rfl : tables_1_6[52]? = some (Cond.code yX3_isSmooth cX3_isSmooth 5 (some .boolean))))
set_option maxRecDepth 100000 in
theorem gc23 : Cond.code (mY 23) (mC 23) (mL 23) (mR 23) ∈ lw_tbl := tbk_in (k := 5) (List.mem_of_getElem? (i := 11) (rfl : tables_1_5[11]? = some (Cond.code yX4_at cX4_at 2 (some .long))))
set_option maxRecDepth 100000 in
theorem gc24 : Cond.code (mY 24) (mC 24) (mL 24) (mR 24) ∈ lw_tbl := tbk_in (k := 4) (List.mem_of_getElem? (i := 239) (rfl : tables_1_4[239]? = some (Cond.code yX4_fill cX4_fill 6 none)))
set_option maxRecDepth 100000 in
theorem gc25 : Cond.code (mY 25) (mC 25) (mL 25) (mR 25) ∈ lw_tbl := tbk_in (k := 5) (List.mem_of_getElem? (i := 6) (rfl : tables_1_5[6]? = some (Cond.code yX4_mergeTimes cX4_mergeTimes 6 none)))
set_option maxRecDepth 100000 in
theorem gc26 : Cond.code (mY 26) (mC 26) (mL 26) (mR 26) ∈ lw_tbl := tbk_in (k := 5) (List.mem_of_getElem? (i := 23) (rfl : tables_1_5[23]? = some (Cond.code yX4_widest cX4_widest 4 (some .long))))
set_option maxRecDepth 100000 in
theorem gc27 : Cond.code (mY 27) (mC 27) (mL 27) (mR 27) ∈ lw_tbl := tbk_in (k := 5) (List.mem_of_getElem? (i := 38) (rfl : tables_1_5[38]? = some (Cond.code yX4_nearestTo cX4_nearestTo 6 (some .long))))
set_option maxRecDepth 100000 in
theorem gc28 : Cond.code (mY 28) (mC 28) (mL 28) (mR 28) ∈ lw_tbl := tbk_in (k := 5) (List.mem_of_getElem? (i := 52) (rfl : tables_1_5[52]? = some (Cond.code yX4_rootOf cX4_rootOf 6 (some .long))))
set_option maxRecDepth 100000 in
theorem gc29 : Cond.code (mY 29) (mC 29) (mL 29) (mR 29) ∈ lw_tbl := tbk_in (k := 5) (List.mem_of_getElem? (i := 126) (rfl : tables_1_5[126]? = some (Cond.code yX4_within cX4_within 7 (some .int))))
set_option maxRecDepth 100000 in
theorem gc30 : Cond.code (mY 30) (mC 30) (mL 30) (mR 30) ∈ lw_tbl := tbk_in (k := 3) (List.mem_of_getElem? (i := 18) (rfl : tables_1_3[18]? = some (Cond.code yX5_read cX5_read 5 none)))
set_option maxRecDepth 100000 in
theorem gc31 : Cond.code (mY 31) (mC 31) (mL 31) (mR 31) ∈ lw_tbl := tbk_in (k := 3) (List.mem_of_getElem? (i := 137) (rfl : tables_1_3[137]? = some (Cond.code yX5_isNext cX5_isNext 2 (some .boolean))))
set_option maxRecDepth 100000 in
theorem gc32 : Cond.code (mY 32) (mC 32) (mL 32) (mR 32) ∈ lw_tbl := tbk_in (k := 3) (List.mem_of_getElem? (i := 145) (rfl : tables_1_3[145]? = some (Cond.code yX5_stop cX5_stop 2 (some .boolean))))
set_option maxRecDepth 100000 in
theorem gc33 : Cond.code (mY 33) (mC 33) (mL 33) (mR 33) ∈ lw_tbl := tbk_in (k := 3) (List.mem_of_getElem? (i := 133) (rfl : tables_1_3[133]? = some (Cond.code yX5_readMint cX5_readMint 3 (some .boolean))))
set_option maxRecDepth 100000 in
theorem gc34 : Cond.code (mY 34) (mC 34) (mL 34) (mR 34) ∈ lw_tbl := tbk_in (k := 3) (List.mem_of_getElem? (i := 167) (rfl : tables_1_3[167]? = some (Cond.code yX5_endLine cX5_endLine 1 (some .boolean))))
set_option maxRecDepth 100000 in
theorem gc35 : Cond.code (mY 35) (mC 35) (mL 35) (mR 35) ∈ lw_tbl := tbk_in (k := 3) (List.mem_of_getElem? (i := 171) (rfl : tables_1_3[171]? = some (Cond.code yX5_readPurse cX5_readPurse 2 (some .boolean))))
set_option maxRecDepth 100000 in
theorem gc36 : Cond.code (mY 36) (mC 36) (mL 36) (mR 36) ∈ lw_tbl := tbk_in (k := 3) (List.mem_of_getElem? (i := 175) (rfl : tables_1_3[175]? = some (Cond.code yX5_readPursed cX5_readPursed 2 (some .boolean))))
set_option maxRecDepth 100000 in
theorem gc37 : Cond.code (mY 37) (mC 37) (mL 37) (mR 37) ∈ lw_tbl := tbk_in (k := 3) (List.mem_of_getElem? (i := 184) (rfl : tables_1_3[184]? = some (Cond.code yX5_readTimes cX5_readTimes 3 (some .boolean))))
set_option maxRecDepth 100000 in
theorem gc38 : Cond.code (mY 38) (mC 38) (mL 38) (mR 38) ∈ lw_tbl := tbk_in (k := 3) (List.mem_of_getElem? (i := 188) (rfl : tables_1_3[188]? = some (Cond.code yX5_readChange cX5_readChange 1 (some .boolean))))
set_option maxRecDepth 100000 in
theorem gc39 : Cond.code (mY 39) (mC 39) (mL 39) (mR 39) ∈ lw_tbl := tbk_in (k := 3) (List.mem_of_getElem? (i := 192) (rfl : tables_1_3[192]? = some (Cond.code yX5_readSide cX5_readSide 4 (some .boolean))))
set_option maxRecDepth 100000 in
theorem gc40 : Cond.code (mY 40) (mC 40) (mL 40) (mR 40) ∈ lw_tbl := tbk_in (k := 5) (List.mem_of_getElem? (i := 68) (rfl : tables_1_5[68]? = some (Cond.code yX6_begin cX6_begin 5 none)))
set_option maxRecDepth 100000 in
theorem gc41 : Cond.code (mY 41) (mC 41) (mL 41) (mR 41) ∈ lw_tbl := tbk_in (k := 5) (List.mem_of_getElem? (i := 95) (rfl : tables_1_5[95]? = some (Cond.code yX6_hasNew cX6_hasNew 1 (some .boolean))))
set_option maxRecDepth 100000 in
theorem gc42 : Cond.code (mY 42) (mC 42) (mL 42) (mR 42) ∈ lw_tbl := tbk_in (k := 5) (List.mem_of_getElem? (i := 99) (rfl : tables_1_5[99]? = some (Cond.code yX6_step cX6_step 4 none)))
set_option maxRecDepth 100000 in
theorem gc43 : Cond.code (mY 43) (mC 43) (mL 43) (mR 43) ∈ lw_tbl := tbk_in (k := 5) (List.mem_of_getElem? (i := 88) (rfl : tables_1_5[88]? = some (Cond.code yX6_newOneHolds cX6_newOneHolds 3 (some .boolean))))
set_option maxRecDepth 100000 in
theorem gc44 : Cond.code (mY 44) (mC 44) (mL 44) (mR 44) ∈ lw_tbl := tbk_in (k := 5) (List.mem_of_getElem? (i := 151) (rfl : tables_1_5[151]? = some (Cond.code yX6_dearestNew cX6_dearestNew 8 (some .long))))
set_option maxRecDepth 100000 in
theorem gc45 : Cond.code (mY 45) (mC 45) (mL 45) (mR 45) ∈ lw_tbl := tbk_in (k := 5) (List.mem_of_getElem? (i := 83) (rfl : tables_1_5[83]? = some (Cond.code yX6_often cX6_often 2 (some .int))))
set_option maxRecDepth 100000 in
theorem gc46 : Cond.code (mY 46) (mC 46) (mL 46) (mR 46) ∈ lw_tbl := tbk_in (k := 5) (List.mem_of_getElem? (i := 91) (rfl : tables_1_5[91]? = some (Cond.code yX6_holds cX6_holds 3 (some .boolean))))
set_option maxRecDepth 100000 in
theorem gc47 : Cond.code (mY 47) (mC 47) (mL 47) (mR 47) ∈ lw_tbl := tbk_in (k := 5) (List.mem_of_getElem? (i := 103) (rfl : tables_1_5[103]? = some (Cond.code yX6_tryChange cX6_tryChange 6 none)))
set_option maxRecDepth 100000 in
theorem gc48 : Cond.code (mY 48) (mC 48) (mL 48) (mR 48) ∈ lw_tbl := tbk_in (k := 5) (List.mem_of_getElem? (i := 76) (rfl : tables_1_5[76]? = some (Cond.code yX6_meet cX6_meet 6 none)))
set_option maxRecDepth 100000 in
theorem gc49 : Cond.code (mY 49) (mC 49) (mL 49) (mR 49) ∈ lw_tbl := tbk_in (k := 5) (List.mem_of_getElem? (i := 80) (rfl : tables_1_5[80]? = some (Cond.code yX6_rankOf cX6_rankOf 6 (some .int))))
set_option maxRecDepth 100000 in
theorem gc50 : Cond.code (mY 50) (mC 50) (mL 50) (mR 50) ∈ lw_tbl := tbk_in (k := 3) (List.mem_of_getElem? (i := 141) (rfl : tables_1_3[141]? = some (Cond.code yX7_kindOf cX7_kindOf 2 (some .int))))
set_option maxRecDepth 100000 in
theorem gc51 : Cond.code (mY 51) (mC 51) (mL 51) (mR 51) ∈ lw_tbl := tbk_in (k := 3) (List.mem_of_getElem? (i := 149) (rfl : tables_1_3[149]? = some (Cond.code yX7_startOf cX7_startOf 2 (some .int))))
set_option maxRecDepth 100000 in
theorem gc52 : Cond.code (mY 52) (mC 52) (mL 52) (mR 52) ∈ lw_tbl := tbk_in (k := 3) (List.mem_of_getElem? (i := 153) (rfl : tables_1_3[153]? = some (Cond.code yX7_valueOf cX7_valueOf 2 (some .int))))
set_option maxRecDepth 100000 in
theorem gc53 : Cond.code (mY 53) (mC 53) (mL 53) (mR 53) ∈ lw_tbl := tbk_in (k := 3) (List.mem_of_getElem? (i := 22) (rfl : tables_1_3[22]? = some (Cond.code yX7_cutAll cX7_cutAll 3 none)))
set_option maxRecDepth 100000 in
theorem gc54 : Cond.code (mY 54) (mC 54) (mL 54) (mR 54) ∈ lw_tbl := tbk_in (k := 3) (List.mem_of_getElem? (i := 43) (rfl : tables_1_3[43]? = some (Cond.code yX7_cutOne cX7_cutOne 1 none)))
set_option maxRecDepth 100000 in
theorem gc55 : Cond.code (mY 55) (mC 55) (mL 55) (mR 55) ∈ lw_tbl := tbk_in (k := 3) (List.mem_of_getElem? (i := 39) (rfl : tables_1_3[39]? = some (Cond.code yX7_signAt cX7_signAt 2 (some .int))))
set_option maxRecDepth 100000 in
theorem gc56 : Cond.code (mY 56) (mC 56) (mL 56) (mR 56) ∈ lw_tbl := tbk_in (k := 3) (List.mem_of_getElem? (i := 46) (rfl : tables_1_3[46]? = some (Cond.code yX7_isLetter cX7_isLetter 1 (some .boolean))))
set_option maxRecDepth 100000 in
theorem gc57 : Cond.code (mY 57) (mC 57) (mL 57) (mR 57) ∈ lw_tbl := tbk_in (k := 3) (List.mem_of_getElem? (i := 114) (rfl : tables_1_3[114]? = some (Cond.code yX7_isDigit cX7_isDigit 1 (some .boolean))))
set_option maxRecDepth 100000 in
theorem gc58 : Cond.code (mY 58) (mC 58) (mL 58) (mR 58) ∈ lw_tbl := tbk_in (k := 3) (List.mem_of_getElem? (i := 35) (rfl : tables_1_3[35]? = some (Cond.code yX7_skipBlanks cX7_skipBlanks 1 none)))
set_option maxRecDepth 100000 in
theorem gc59 : Cond.code (mY 59) (mC 59) (mL 59) (mR 59) ∈ lw_tbl := tbk_in (k := 3) (List.mem_of_getElem? (i := 50) (rfl : tables_1_3[50]? = some (Cond.code yX7_skipLetters cX7_skipLetters 1 none)))
set_option maxRecDepth 100000 in
theorem gc60 : Cond.code (mY 60) (mC 60) (mL 60) (mR 60) ∈ lw_tbl := tbk_in (k := 3) (List.mem_of_getElem? (i := 118) (rfl : tables_1_3[118]? = some (Cond.code yX7_readDigits cX7_readDigits 2 (some .int))))
set_option maxRecDepth 100000 in
theorem gc61 : Cond.code (mY 61) (mC 61) (mL 61) (mR 61) ∈ lw_tbl := tbk_in (k := 3) (List.mem_of_getElem? (i := 54) (rfl : tables_1_3[54]? = some (Cond.code yX7_kindOfWord cX7_kindOfWord 2 (some .int))))
set_option maxRecDepth 100000 in
theorem gc62 : Cond.code (mY 62) (mC 62) (mL 62) (mR 62) ∈ lw_tbl := tbk_in (k := 3) (List.mem_of_getElem? (i := 59) (rfl : tables_1_3[59]? = some (Cond.code yX7_isWord cX7_isWord 4 (some .boolean))))
set_option maxRecDepth 100000 in
theorem gc63 : Cond.code (mY 63) (mC 63) (mL 63) (mR 63) ∈ lw_tbl := tbk_in (k := 3) (List.mem_of_getElem? (i := 122) (rfl : tables_1_3[122]? = some (Cond.code yX8_empty cX8_empty 1 none)))
set_option maxRecDepth 100000 in
theorem gc64 : Cond.code (mY 64) (mC 64) (mL 64) (mR 64) ∈ lw_tbl := tbk_in (k := 3) (List.mem_of_getElem? (i := 200) (rfl : tables_1_3[200]? = some (Cond.code yX8_become cX8_become 2 none)))
set_option maxRecDepth 100000 in
theorem gc65 : Cond.code (mY 65) (mC 65) (mL 65) (mR 65) ∈ lw_tbl := tbk_in (k := 3) (List.mem_of_getElem? (i := 163) (rfl : tables_1_3[163]? = some (Cond.code yX8_addCoin cX8_addCoin 2 none)))
set_option maxRecDepth 100000 in
theorem gc66 : Cond.code (mY 66) (mC 66) (mL 66) (mR 66) ∈ lw_tbl := tbk_in (k := 2) (List.mem_of_getElem? (i := 86) (rfl : tables_1_2[86]? = some (Cond.code yX8_primeOf cX8_primeOf 2 (some .int))))
set_option maxRecDepth 100000 in
theorem gc67 : Cond.code (mY 67) (mC 67) (mL 67) (mR 67) ∈ lw_tbl := tbk_in (k := 2) (List.mem_of_getElem? (i := 70) (rfl : tables_1_2[70]? = some (Cond.code yX8_numberOf cX8_numberOf 3 (some .int))))
set_option maxRecDepth 100000 in
theorem gc68 : Cond.code (mY 68) (mC 68) (mL 68) (mR 68) ∈ lw_tbl := tbk_in (k := 4) (List.mem_of_getElem? (i := 73) (rfl : tables_1_4[73]? = some (Cond.code yX8_takeApart cX8_takeApart 9 (some .boolean))))
set_option maxRecDepth 100000 in
theorem gc69 : Cond.code (mY 69) (mC 69) (mL 69) (mR 69) ∈ lw_tbl := tbk_in (k := 2) (List.mem_of_getElem? (i := 118) (rfl : tables_1_2[118]? = some (Cond.code yX8_held cX8_held 4 (some .int))))
set_option maxRecDepth 100000 in
theorem gc70 : Cond.code (mY 70) (mC 70) (mL 70) (mR 70) ∈ lw_tbl := tbk_in (k := 3) (List.mem_of_getElem? (i := 180) (rfl : tables_1_3[180]? = some (Cond.code yX8_come cX8_come 4 none)))
set_option maxRecDepth 100000 in
theorem gc71 : Cond.code (mY 71) (mC 71) (mL 71) (mR 71) ∈ lw_tbl := tbk_in (k := 2) (List.mem_of_getElem? (i := 169) (rfl : tables_1_2[169]? = some (Cond.code yX8_many cX8_many 4 (some .int))))
set_option maxRecDepth 100000 in
theorem gc72 : Cond.code (mY 72) (mC 72) (mL 72) (mR 72) ∈ lw_tbl := tbk_in (k := 2) (List.mem_of_getElem? (i := 165) (rfl : tables_1_2[165]? = some (Cond.code yX8_manyInPurses cX8_manyInPurses 3 (some .int))))
set_option maxRecDepth 100000 in
theorem gc73 : Cond.code (mY 73) (mC 73) (mL 73) (mR 73) ∈ lw_tbl := tbk_in (k := 4) (List.mem_of_getElem? (i := 21) (rfl : tables_1_4[21]? = some (Cond.code yX8_unlike cX8_unlike 2 (some .int))))
set_option maxRecDepth 100000 in
theorem gc74 : Cond.code (mY 74) (mC 74) (mL 74) (mR 74) ∈ lw_tbl := tbk_in (k := 2) (List.mem_of_getElem? (i := 114) (rfl : tables_1_2[114]? = some (Cond.code yX8_coinBits cX8_coinBits 4 (some .int))))
set_option maxRecDepth 100000 in
theorem gc75 : Cond.code (mY 75) (mC 75) (mL 75) (mR 75) ∈ lw_tbl := tbk_in (k := 4) (List.mem_of_getElem? (i := 26) (rfl : tables_1_4[26]? = some (Cond.code yX8_greatestCoin cX8_greatestCoin 4 (some .int))))
set_option maxRecDepth 100000 in
theorem gc76 : Cond.code (mY 76) (mC 76) (mL 76) (mR 76) ∈ lw_tbl := tbk_in (k := 4) (List.mem_of_getElem? (i := 30) (rfl : tables_1_4[30]? = some (Cond.code yX8_leastCoin cX8_leastCoin 4 (some .int))))
set_option maxRecDepth 100000 in
theorem gc77 : Cond.code (mY 77) (mC 77) (mL 77) (mR 77) ∈ lw_tbl := tbk_in (k := 4) (List.mem_of_getElem? (i := 41) (rfl : tables_1_4[41]? = some (Cond.code yX8_worthOf cX8_worthOf 5 (some .long))))
set_option maxRecDepth 100000 in
theorem gc78 : Cond.code (mY 78) (mC 78) (mL 78) (mR 78) ∈ lw_tbl := tbk_in (k := 4) (List.mem_of_getElem? (i := 207) (rfl : tables_1_4[207]? = some (Cond.code yX8_richest cX8_richest 3 (some .int))))
set_option maxRecDepth 100000 in
theorem gc79 : Cond.code (mY 79) (mC 79) (mL 79) (mR 79) ∈ lw_tbl := tbk_in (k := 4) (List.mem_of_getElem? (i := 228) (rfl : tables_1_4[228]? = some (Cond.code yX8_smoothPrices cX8_smoothPrices 5 (some .int))))
set_option maxRecDepth 100000 in
theorem gc80 : Cond.code (mY 80) (mC 80) (mL 80) (mR 80) ∈ lw_tbl := tbk_in (k := 4) (List.mem_of_getElem? (i := 78) (rfl : tables_1_4[78]? = some (Cond.code yX8_allHold cX8_allHold 6 (some .boolean))))
set_option maxRecDepth 100000 in
theorem gc81 : Cond.code (mY 81) (mC 81) (mL 81) (mR 81) ∈ lw_tbl := tbk_in (k := 2) (List.mem_of_getElem? (i := 110) (rfl : tables_1_2[110]? = some (Cond.code yX8_shareNoPrime cX8_shareNoPrime 5 (some .boolean))))
set_option maxRecDepth 100000 in
theorem gc82 : Cond.code (mY 82) (mC 82) (mL 82) (mR 82) ∈ lw_tbl := tbk_in (k := 5) (List.mem_of_getElem? (i := 167) (rfl : tables_1_5[167]? = some (Cond.code yX8_differBySwap cX8_differBySwap 9 (some .long))))
set_option maxRecDepth 100000 in
theorem gc83 : Cond.code (mY 83) (mC 83) (mL 83) (mR 83) ∈ lw_tbl := tbk_in (k := 4) (List.mem_of_getElem? (i := 89) (rfl : tables_1_4[89]? = some (Cond.code yX8_handOver cX8_handOver 6 (some .int))))
set_option maxRecDepth 100000 in
theorem gc84 : Cond.code (mY 84) (mC 84) (mL 84) (mR 84) ∈ lw_tbl := tbk_in (k := 2) (List.mem_of_getElem? (i := 93) (rfl : tables_1_2[93]? = some (Cond.code yX8_isSidePlace cX8_isSidePlace 3 (some .boolean))))
set_option maxRecDepth 100000 in
theorem gc85 : Cond.code (mY 85) (mC 85) (mL 85) (mR 85) ∈ lw_tbl := tbk_in (k := 2) (List.mem_of_getElem? (i := 90) (rfl : tables_1_2[90]? = some (Cond.code yX8_onSide cX8_onSide 4 (some .int))))
set_option maxRecDepth 100000 in
theorem gc86 : Cond.code (mY 86) (mC 86) (mL 86) (mR 86) ∈ lw_tbl := tbk_in (k := 3) (List.mem_of_getElem? (i := 196) (rfl : tables_1_3[196]? = some (Cond.code yX8_addToSide cX8_addToSide 4 none)))
set_option maxRecDepth 100000 in
theorem gc87 : Cond.code (mY 87) (mC 87) (mL 87) (mR 87) ∈ lw_tbl := tbk_in (k := 2) (List.mem_of_getElem? (i := 82) (rfl : tables_1_2[82]? = some (Cond.code yX8_sideWorth cX8_sideWorth 6 (some .int))))
set_option maxRecDepth 100000 in
theorem gc88 : Cond.code (mY 88) (mC 88) (mL 88) (mR 88) ∈ lw_tbl := tbk_in (k := 4) (List.mem_of_getElem? (i := 101) (rfl : tables_1_4[101]? = some (Cond.code yX8_changeFault cX8_changeFault 5 (some .int))))
set_option maxRecDepth 100000 in
theorem gc89 : Cond.code (mY 89) (mC 89) (mL 89) (mR 89) ∈ lw_tbl := tbk_in (k := 4) (List.mem_of_getElem? (i := 105) (rfl : tables_1_4[105]? = some (Cond.code yX8_makeChange cX8_makeChange 4 (some .int))))
set_option maxRecDepth 100000 in
theorem gc90 : Cond.code (mY 90) (mC 90) (mL 90) (mR 90) ∈ lw_tbl := tbk_in (k := 2) (List.mem_of_getElem? (i := 74) (rfl : tables_1_2[74]? = some (Cond.code yX8_inTreasury cX8_inTreasury 2 (some .int))))
set_option maxRecDepth 100000 in
theorem gc91 : Cond.code (mY 91) (mC 91) (mL 91) (mR 91) ∈ lw_tbl := tbk_in (k := 2) (List.mem_of_getElem? (i := 173) (rfl : tables_1_2[173]? = some (Cond.code yX8_manyInTreasury cX8_manyInTreasury 3 (some .int))))
set_option maxRecDepth 100000 in
theorem gc92 : Cond.code (mY 92) (mC 92) (mL 92) (mR 92) ∈ lw_tbl := tbk_in (k := 4) (List.mem_of_getElem? (i := 116) (rfl : tables_1_4[116]? = some (Cond.code yX8_taxOne cX8_taxOne 3 (some .int))))
set_option maxRecDepth 100000 in
theorem gc93 : Cond.code (mY 93) (mC 93) (mL 93) (mR 93) ∈ lw_tbl := tbk_in (k := 4) (List.mem_of_getElem? (i := 199) (rfl : tables_1_4[199]? = some (Cond.code yX8_dealFault cX8_dealFault 8 (some .int))))
set_option maxRecDepth 100000 in
theorem gc94 : Cond.code (mY 94) (mC 94) (mL 94) (mR 94) ∈ lw_tbl := tbk_in (k := 4) (List.mem_of_getElem? (i := 191) (rfl : tables_1_4[191]? = some (Cond.code yX8_makeDeals cX8_makeDeals 6 (some .int))))
set_option maxRecDepth 100000 in
theorem gc95 : Cond.code (mY 95) (mC 95) (mL 95) (mR 95) ∈ lw_tbl := tbk_in (k := 6) (List.mem_of_getElem? (i := 105) (rfl : tables_1_6[105]? = some (Cond.code yX9_layRow cX9_layRow 3 none)))
set_option maxRecDepth 100000 in
theorem gc96 : Cond.code (mY 96) (mC 96) (mL 96) (mR 96) ∈ lw_tbl := tbk_in (k := 4) (List.mem_of_getElem? (i := 195) (rfl : tables_1_4[195]? = some (Cond.code yX9_at cX9_at 2 (some .long))))
set_option maxRecDepth 100000 in
theorem gc97 : Cond.code (mY 97) (mC 97) (mL 97) (mR 97) ∈ lw_tbl := tbk_in (k := 6) (List.mem_of_getElem? (i := 136) (rfl : tables_1_6[136]? = some (Cond.code yX9_put cX9_put 6 (some .long))))
set_option maxRecDepth 100000 in
theorem gc98 : Cond.code (mY 98) (mC 98) (mL 98) (mR 98) ∈ lw_tbl := tbk_in (k := 6) (List.mem_of_getElem? (i := 140) (rfl : tables_1_6[140]? = some (Cond.code yX9_cutToSort cX9_cutToSort 3 (some .long))))
set_option maxRecDepth 100000 in
theorem gc99 : Cond.code (mY 99) (mC 99) (mL 99) (mR 99) ∈ lw_tbl := tbk_in (k := 5) (List.mem_of_getElem? (i := 204) (rfl : tables_1_5[204]? = some (Cond.code yX9_tellsRests cX9_tellsRests 2 (some .boolean))))
set_option maxRecDepth 100000 in
theorem gc100 : Cond.code (mY 100) (mC 100) (mL 100) (mR 100) ∈ lw_tbl := tbk_in (k := 5) (List.mem_of_getElem? (i := 222) (rfl : tables_1_5[222]? = some (Cond.code yX9_allRestsOf cX9_allRestsOf 4 (some .boolean))))
set_option maxRecDepth 100000 in
theorem gc101 : Cond.code (mY 101) (mC 101) (mL 101) (mR 101) ∈ lw_tbl := tbk_in (k := 2) (List.mem_of_getElem? (i := 54) (rfl : tables_1_2[54]? = some (Cond.code yX10_feed cX10_feed 6 (some .int))))
set_option maxRecDepth 100000 in
theorem gc102 : Cond.code (mY 102) (mC 102) (mL 102) (mR 102) ∈ lw_tbl := tbk_in (k := 2) (List.mem_of_getElem? (i := 185) (rfl : tables_1_2[185]? = some (Cond.code yX10_town cX10_town 2 (some .int))))
set_option maxRecDepth 100000 in
theorem gc103 : Cond.code (mY 103) (mC 103) (mL 103) (mR 103) ∈ lw_tbl := tbk_in (k := 2) (List.mem_of_getElem? (i := 62) (rfl : tables_1_2[62]? = some (Cond.code yX10_fault cX10_fault 2 (some .int))))
set_option maxRecDepth 100000 in
theorem gc104 : Cond.code (mY 104) (mC 104) (mL 104) (mR 104) ∈ lw_tbl := tbk_in (k := 3) (List.mem_of_getElem? (i := 214) (rfl : tables_1_3[214]? = some (Cond.code yX10_coin cX10_coin 2 (some .int))))
set_option maxRecDepth 100000 in
theorem gc105 : Cond.code (mY 105) (mC 105) (mL 105) (mR 105) ∈ lw_tbl := tbk_in (k := 3) (List.mem_of_getElem? (i := 238) (rfl : tables_1_3[238]? = some (Cond.code yX10_has cX10_has 3 (some .int))))
set_option maxRecDepth 100000 in
theorem gc106 : Cond.code (mY 106) (mC 106) (mL 106) (mR 106) ∈ lw_tbl := tbk_in (k := 4) (List.mem_of_getElem? (i := 11) (rfl : tables_1_4[11]? = some (Cond.code yX10_purse cX10_purse 3 (some .int))))
set_option maxRecDepth 100000 in
theorem gc107 : Cond.code (mY 107) (mC 107) (mL 107) (mR 107) ∈ lw_tbl := tbk_in (k := 4) (List.mem_of_getElem? (i := 37) (rfl : tables_1_4[37]? = some (Cond.code yX10_worth cX10_worth 2 (some .long))))
set_option maxRecDepth 100000 in
theorem gc108 : Cond.code (mY 108) (mC 108) (mL 108) (mR 108) ∈ lw_tbl := tbk_in (k := 4) (List.mem_of_getElem? (i := 48) (rfl : tables_1_4[48]? = some (Cond.code yX10_change cX10_change 3 (some .int))))
set_option maxRecDepth 100000 in
theorem gc109 : Cond.code (mY 109) (mC 109) (mL 109) (mR 109) ∈ lw_tbl := tbk_in (k := 4) (List.mem_of_getElem? (i := 60) (rfl : tables_1_4[60]? = some (Cond.code yX10_may cX10_may 5 (some .int))))
set_option maxRecDepth 100000 in
theorem gc110 : Cond.code (mY 110) (mC 110) (mL 110) (mR 110) ∈ lw_tbl := tbk_in (k := 4) (List.mem_of_getElem? (i := 85) (rfl : tables_1_4[85]? = some (Cond.code yX10_pay cX10_pay 6 (some .int))))
set_option maxRecDepth 100000 in
theorem gc111 : Cond.code (mY 111) (mC 111) (mL 111) (mR 111) ∈ lw_tbl := tbk_in (k := 4) (List.mem_of_getElem? (i := 97) (rfl : tables_1_4[97]? = some (Cond.code yX10_changes cX10_changes 4 (some .int))))
set_option maxRecDepth 100000 in
theorem gc112 : Cond.code (mY 112) (mC 112) (mL 112) (mR 112) ∈ lw_tbl := tbk_in (k := 4) (List.mem_of_getElem? (i := 112) (rfl : tables_1_4[112]? = some (Cond.code yX10_tax cX10_tax 2 (some .int))))
set_option maxRecDepth 100000 in
theorem gc113 : Cond.code (mY 113) (mC 113) (mL 113) (mR 113) ∈ lw_tbl := tbk_in (k := 4) (List.mem_of_getElem? (i := 126) (rfl : tables_1_4[126]? = some (Cond.code yX10_strike cX10_strike 4 (some .int))))
set_option maxRecDepth 100000 in
theorem gc114 : Cond.code (mY 114) (mC 114) (mL 114) (mR 114) ∈ lw_tbl := tbk_in (k := 2) (List.mem_of_getElem? (i := 66) (rfl : tables_1_2[66]? = some (Cond.code yX10_treasury cX10_treasury 2 (some .int))))
set_option maxRecDepth 100000 in
theorem gc115 : Cond.code (mY 115) (mC 115) (mL 115) (mR 115) ∈ lw_tbl := tbk_in (k := 4) (List.mem_of_getElem? (i := 151) (rfl : tables_1_4[151]? = some (Cond.code yX10_readOut cX10_readOut 6 (some .long))))
set_option maxRecDepth 100000 in
theorem gc116 : Cond.code (mY 116) (mC 116) (mL 116) (mR 116) ∈ lw_tbl := tbk_in (k := 4) (List.mem_of_getElem? (i := 163) (rfl : tables_1_4[163]? = some (Cond.code yX10_year cX10_year 5 (some .int))))
set_option maxRecDepth 100000 in
theorem gc117 : Cond.code (mY 117) (mC 117) (mL 117) (mR 117) ∈ lw_tbl := tbk_in (k := 4) (List.mem_of_getElem? (i := 181) (rfl : tables_1_4[181]? = some (Cond.code yX10_judge cX10_judge 5 (some .int))))
set_option maxRecDepth 100000 in
theorem gc118 : Cond.code (mY 118) (mC 118) (mL 118) (mR 118) ∈ lw_tbl := tbk_in (k := 4) (List.mem_of_getElem? (i := 217) (rfl : tables_1_4[217]? = some (Cond.code yX10_perform cX10_perform 2 (some .int))))
set_option maxRecDepth 100000 in
theorem gc119 : Cond.code (mY 119) (mC 119) (mL 119) (mR 119) ∈ lw_tbl := tbk_in (k := 4) (List.mem_of_getElem? (i := 224) (rfl : tables_1_4[224]? = some (Cond.code yX10_prices cX10_prices 2 (some .int))))
set_option maxRecDepth 100000 in
theorem gc120 : Cond.code (mY 120) (mC 120) (mL 120) (mR 120) ∈ lw_tbl := tbk_in (k := 4) (List.mem_of_getElem? (i := 235) (rfl : tables_1_4[235]? = some (Cond.code yX10_price cX10_price 3 (some .long))))
set_option maxRecDepth 100000 in
theorem gc121 : Cond.code (mY 121) (mC 121) (mL 121) (mR 121) ∈ lw_tbl := tbk_in (k := 5) (List.mem_of_getElem? (i := 19) (rfl : tables_1_5[19]? = some (Cond.code yX10_gap cX10_gap 2 (some .long))))
set_option maxRecDepth 100000 in
theorem gc122 : Cond.code (mY 122) (mC 122) (mL 122) (mR 122) ∈ lw_tbl := tbk_in (k := 5) (List.mem_of_getElem? (i := 34) (rfl : tables_1_5[34]? = some (Cond.code yX10_nearest cX10_nearest 4 (some .long))))
set_option maxRecDepth 100000 in
theorem gc123 : Cond.code (mY 123) (mC 123) (mL 123) (mR 123) ∈ lw_tbl := tbk_in (k := 5) (List.mem_of_getElem? (i := 48) (rfl : tables_1_5[48]? = some (Cond.code yX10_half cX10_half 2 (some .long))))
set_option maxRecDepth 100000 in
theorem gc124 : Cond.code (mY 124) (mC 124) (mL 124) (mR 124) ∈ lw_tbl := tbk_in (k := 5) (List.mem_of_getElem? (i := 59) (rfl : tables_1_5[59]? = some (Cond.code yX10_fewest cX10_fewest 5 (some .int))))
set_option maxRecDepth 100000 in
theorem gc125 : Cond.code (mY 125) (mC 125) (mL 125) (mR 125) ∈ lw_tbl := tbk_in (k := 5) (List.mem_of_getElem? (i := 110) (rfl : tables_1_5[110]? = some (Cond.code yX10_together cX10_together 8 (some .int))))
set_option maxRecDepth 100000 in
theorem gc126 : Cond.code (mY 126) (mC 126) (mL 126) (mR 126) ∈ lw_tbl := tbk_in (k := 5) (List.mem_of_getElem? (i := 122) (rfl : tables_1_5[122]? = some (Cond.code yX10_between cX10_between 6 (some .int))))
set_option maxRecDepth 100000 in
theorem gc127 : Cond.code (mY 127) (mC 127) (mL 127) (mR 127) ∈ lw_tbl := tbk_in (k := 5) (List.mem_of_getElem? (i := 133) (rfl : tables_1_5[133]? = some (Cond.code yX10_dear cX10_dear 3 (some .int))))
set_option maxRecDepth 100000 in
theorem gc128 : Cond.code (mY 128) (mC 128) (mL 128) (mR 128) ∈ lw_tbl := tbk_in (k := 2) (List.mem_of_getElem? (i := 78) (rfl : tables_1_2[78]? = some (Cond.code yX10_gainer cX10_gainer 7 (some .int))))
set_option maxRecDepth 100000 in
theorem gc129 : Cond.code (mY 129) (mC 129) (mL 129) (mR 129) ∈ lw_tbl := tbk_in (k := 5) (List.mem_of_getElem? (i := 146) (rfl : tables_1_5[146]? = some (Cond.code yX10_grows cX10_grows 6 (some .long))))
set_option maxRecDepth 100000 in
theorem gc130 : Cond.code (mY 130) (mC 130) (mL 130) (mR 130) ∈ lw_tbl := tbk_in (k := 5) (List.mem_of_getElem? (i := 163) (rfl : tables_1_5[163]? = some (Cond.code yX10_swap cX10_swap 12 (some .long))))
set_option maxRecDepth 100000 in
theorem gc131 : Cond.code (mY 131) (mC 131) (mL 131) (mR 131) ∈ lw_tbl := tbk_in (k := 5) (List.mem_of_getElem? (i := 175) (rfl : tables_1_5[175]? = some (Cond.code yX10_common cX10_common 3 (some .long))))
set_option maxRecDepth 100000 in
theorem gc132 : Cond.code (mY 132) (mC 132) (mL 132) (mR 132) ∈ lw_tbl := tbk_in (k := 5) (List.mem_of_getElem? (i := 183) (rfl : tables_1_5[183]? = some (Cond.code yX10_least cX10_least 5 (some .int))))
set_option maxRecDepth 100000 in
theorem gc133 : Cond.code (mY 133) (mC 133) (mL 133) (mR 133) ∈ lw_tbl := tbk_in (k := 2) (List.mem_of_getElem? (i := 100) (rfl : tables_1_2[100]? = some (Cond.code yX10_friends cX10_friends 3 (some .int))))
set_option maxRecDepth 100000 in
theorem gc134 : Cond.code (mY 134) (mC 134) (mL 134) (mR 134) ∈ lw_tbl := tbk_in (k := 5) (List.mem_of_getElem? (i := 191) (rfl : tables_1_5[191]? = some (Cond.code yX10_stolen cX10_stolen 10 (some .int))))
set_option maxRecDepth 100000 in
theorem gc135 : Cond.code (mY 135) (mC 135) (mL 135) (mR 135) ∈ lw_tbl := tbk_in (k := 5) (List.mem_of_getElem? (i := 200) (rfl : tables_1_5[200]? = some (Cond.code yX10_fitting cX10_fitting 5 (some .long))))
set_option maxRecDepth 100000 in
theorem gc136 : Cond.code (mY 136) (mC 136) (mL 136) (mR 136) ∈ lw_tbl := tbk_in (k := 6) (List.mem_of_getElem? (i := 0) (rfl : tables_1_6[0]? = some (Cond.code yX10_trial cX10_trial 4 (some .int))))
set_option maxRecDepth 100000 in
theorem gc137 : Cond.code (mY 137) (mC 137) (mL 137) (mR 137) ∈ lw_tbl := tbk_in (k := 6) (List.mem_of_getElem? (i := 16) (rfl : tables_1_6[16]? = some (Cond.code yX10_squares cX10_squares 6 (some .int))))
set_option maxRecDepth 100000 in
theorem gc138 : Cond.code (mY 138) (mC 138) (mL 138) (mR 138) ∈ lw_tbl := tbk_in (k := 6) (List.mem_of_getElem? (i := 28) (rfl : tables_1_6[28]? = some (Cond.code yX10_rounds cX10_rounds 11 (some .int))))
set_option maxRecDepth 100000 in
theorem gc139 : Cond.code (mY 139) (mC 139) (mL 139) (mR 139) ∈ lw_tbl := tbk_in (k := 6) (List.mem_of_getElem? (i := 37) (rfl : tables_1_6[37]? = some (Cond.code yX10_factor cX10_factor 7 (some .int))))
set_option maxRecDepth 100000 in
theorem gc140 : Cond.code (mY 140) (mC 140) (mL 140) (mR 140) ∈ lw_tbl := tbk_in (k := 6) (List.mem_of_getElem? (i := 44) (rfl : tables_1_6[44]? = some (Cond.code yX10_smooth cX10_smooth 5 (some .int))))
set_option maxRecDepth 100000 in
theorem gc141 : Cond.code (mY 141) (mC 141) (mL 141) (mR 141) ∈ lw_tbl := tbk_in (k := 6) (List.mem_of_getElem? (i := 59) (rfl : tables_1_6[59]? = some (Cond.code yX10_primesTo cX10_primesTo 4 (some .int))))
set_option maxRecDepth 100000 in
theorem gc142 : Cond.code (mY 142) (mC 142) (mL 142) (mR 142) ∈ lw_tbl := tbk_in (k := 6) (List.mem_of_getElem? (i := 66) (rfl : tables_1_6[66]? = some (Cond.code yX10_witness cX10_witness 3 (some .int))))
set_option maxRecDepth 100000 in
theorem gc143 : Cond.code (mY 143) (mC 143) (mL 143) (mR 143) ∈ lw_tbl := tbk_in (k := 6) (List.mem_of_getElem? (i := 73) (rfl : tables_1_6[73]? = some (Cond.code yX10_order cX10_order 5 (some .int))))
set_option maxRecDepth 100000 in
theorem gc144 : Cond.code (mY 144) (mC 144) (mL 144) (mR 144) ∈ lw_tbl := tbk_in (k := 6) (List.mem_of_getElem? (i := 81) (rfl : tables_1_6[81]? = some (Cond.code yX10_owe cX10_owe 7 (some .long))))
set_option maxRecDepth 100000 in
theorem gc145 : Cond.code (mY 145) (mC 145) (mL 145) (mR 145) ∈ lw_tbl := tbk_in (k := 6) (List.mem_of_getElem? (i := 93) (rfl : tables_1_6[93]? = some (Cond.code yX10_owed cX10_owed 3 (some .long))))
set_option maxRecDepth 100000 in
theorem gc146 : Cond.code (mY 146) (mC 146) (mL 146) (mR 146) ∈ lw_tbl := tbk_in (k := 2) (List.mem_of_getElem? (i := 122) (rfl : tables_1_2[122]? = some (Cond.code yX10_struck cX10_struck 1 (some .int))))
set_option maxRecDepth 100000 in
theorem gc147 : Cond.code (mY 147) (mC 147) (mL 147) (mR 147) ∈ lw_tbl := tbk_in (k := 6) (List.mem_of_getElem? (i := 100) (rfl : tables_1_6[100]? = some (Cond.code yX10_tray cX10_tray 4 none)))
set_option maxRecDepth 100000 in
theorem gc148 : Cond.code (mY 148) (mC 148) (mL 148) (mR 148) ∈ lw_tbl := tbk_in (k := 6) (List.mem_of_getElem? (i := 116) (rfl : tables_1_6[116]? = some (Cond.code yX10_write cX10_write 6 (some .long))))
set_option maxRecDepth 100000 in
theorem gc149 : Cond.code (mY 149) (mC 149) (mL 149) (mR 149) ∈ lw_tbl := tbk_in (k := 6) (List.mem_of_getElem? (i := 147) (rfl : tables_1_6[147]? = some (Cond.code yX10_pour cX10_pour 5 (some .int))))
set_option maxRecDepth 100000 in
theorem gc150 : Cond.code (mY 150) (mC 150) (mL 150) (mR 150) ∈ lw_tbl := tbk_in (k := 6) (List.mem_of_getElem? (i := 155) (rfl : tables_1_6[155]? = some (Cond.code yX10_image cX10_image 2 none)))
set_option maxRecDepth 100000 in
theorem gc151 : Cond.code (mY 151) (mC 151) (mL 151) (mR 151) ∈ lw_tbl := tbk_in (k := 6) (List.mem_of_getElem? (i := 167) (rfl : tables_1_6[167]? = some (Cond.code yX10_restore cX10_restore 2 none)))
set_option maxRecDepth 100000 in
theorem gc152 : Cond.code (mY 152) (mC 152) (mL 152) (mR 152) ∈ lw_tbl := tbk_in (k := 2) (List.mem_of_getElem? (i := 161) (rfl : tables_1_2[161]? = some (Cond.code yX10_count cX10_count 2 (some .int))))
set_option maxRecDepth 100000 in
theorem gc153 : Cond.code (mY 153) (mC 153) (mL 153) (mR 153) ∈ lw_tbl := tbk_in (k := 2) (List.mem_of_getElem? (i := 58) (rfl : tables_1_2[58]? = some (Cond.code yX10_lay cX10_lay 3 none)))
set_option maxRecDepth 100000 in
theorem gc154 : Cond.code (mY 154) (mC 154) (mL 154) (mR 154) ∈ lw_tbl := tbk_in (k := 4) (List.mem_of_getElem? (i := 69) (rfl : tables_1_4[69]? = some (Cond.code yX10_payFault cX10_payFault 7 (some .int))))
set_option maxRecDepth 100000 in
theorem gc155 : Cond.code (mY 155) (mC 155) (mL 155) (mR 155) ∈ lw_tbl := tbk_in (k := 4) (List.mem_of_getElem? (i := 169) (rfl : tables_1_4[169]? = some (Cond.code yX10_yearStep cX10_yearStep 3 (some .int))))
set_option maxRecDepth 100000 in
theorem gc156 : Cond.code (mY 156) (mC 156) (mL 156) (mR 156) ∈ lw_tbl := tbk_in (k := 4) (List.mem_of_getElem? (i := 2) (rfl : tables_1_4[2]? = some (Cond.code yX10_needPerson cX10_needPerson 2 none)))
set_option maxRecDepth 100000 in
theorem gc157 : Cond.code (mY 157) (mC 157) (mL 157) (mR 157) ∈ lw_tbl := tbk_in (k := 4) (List.mem_of_getElem? (i := 64) (rfl : tables_1_4[64]? = some (Cond.code yX10_needTwo cX10_needTwo 3 none)))
set_option maxRecDepth 100000 in
theorem gc158 : Cond.code (mY 158) (mC 158) (mL 158) (mR 158) ∈ lw_tbl := tbk_in (k := 4) (List.mem_of_getElem? (i := 52) (rfl : tables_1_4[52]? = some (Cond.code yX10_needChange cX10_needChange 2 none)))
set_option maxRecDepth 100000 in
theorem gc159 : Cond.code (mY 159) (mC 159) (mL 159) (mR 159) ∈ lw_tbl := tbk_in (k := 4) (List.mem_of_getElem? (i := 15) (rfl : tables_1_4[15]? = some (Cond.code yX10_needWhat cX10_needWhat 3 none)))
set_option maxRecDepth 100000 in
theorem gc160 : Cond.code (mY 160) (mC 160) (mL 160) (mR 160) ∈ lw_tbl := tbk_in (k := 5) (List.mem_of_getElem? (i := 114) (rfl : tables_1_5[114]? = some (Cond.code yX10_needSet cX10_needSet 2 none)))
set_option maxRecDepth 100000 in
theorem gc161 : Cond.code (mY 161) (mC 161) (mL 161) (mR 161) ∈ lw_tbl := tbk_in (k := 5) (List.mem_of_getElem? (i := 63) (rfl : tables_1_5[63]? = some (Cond.code yX10_needPrice cX10_needPrice 3 none)))
set_option maxRecDepth 100000 in
theorem gc162 : Cond.code (mY 162) (mC 162) (mL 162) (mR 162) ∈ lw_tbl := tbk_in (k := 6) (List.mem_of_getElem? (i := 4) (rfl : tables_1_6[4]? = some (Cond.code yX10_needNumber cX10_needNumber 3 none)))
set_option maxRecDepth 100000 in
theorem gc163 : Cond.code (mY 163) (mC 163) (mL 163) (mR 163) ∈ lw_tbl := tbk_in (k := 6) (List.mem_of_getElem? (i := 48) (rfl : tables_1_6[48]? = some (Cond.code yX10_needSmallNumber cX10_needSmallNumber 2 none)))
set_option maxRecDepth 100000 in
theorem gc164 : Cond.code (mY 164) (mC 164) (mL 164) (mR 164) ∈ lw_tbl := tbk_in (k := 5) (List.mem_of_getElem? (i := 137) (rfl : tables_1_5[137]? = some (Cond.code yX10_needSmallPrime cX10_needSmallPrime 2 none)))
set_option maxRecDepth 100000 in
theorem gc165 : Cond.code (mY 165) (mC 165) (mL 165) (mR 165) ∈ lw_tbl := tbk_in (k := 6) (List.mem_of_getElem? (i := 159) (rfl : tables_1_6[159]? = some (Cond.code yX10_needImage cX10_needImage 2 none)))
set_option maxRecDepth 100000 in
theorem gc166 : Cond.code (mY 166) (mC 166) (mL 166) (mR 166) ∈ lw_tbl := tbk_in (k := 4) (List.mem_of_getElem? (i := 185) (rfl : tables_1_4[185]? = some (Cond.code yX10_needTray cX10_needTray 2 (some (.object "PrimeCoins$Tray")))))
set_option maxRecDepth 100000 in
theorem gc167 : Cond.code (mY 167) (mC 167) (mL 167) (mR 167) ∈ lw_tbl := tbk_in (k := 7) (List.mem_of_getElem? (i := 33) (rfl : tables_1_7[33]? = some (Cond.code yX11_thrown cX11_thrown 1 (some .int))))
set_option maxRecDepth 100000 in
theorem gc168 : Cond.code (mY 168) (mC 168) (mL 168) (mR 168) ∈ lw_tbl := tbk_in (k := 7) (List.mem_of_getElem? (i := 48) (rfl : tables_1_7[48]? = some (Cond.code yX11_fails cX11_fails 2 (some .int))))
set_option maxRecDepth 100000 in
theorem gc169 : Cond.code (mY 169) (mC 169) (mL 169) (mR 169) ∈ lw_tbl := tbk_in (k := 7) (List.mem_of_getElem? (i := 44) (rfl : tables_1_7[44]? = some (Cond.code yX11_within cX11_within 6 (some .boolean))))
set_option maxRecDepth 100000 in
theorem gc170 : Cond.code (mY 170) (mC 170) (mL 170) (mR 170) ∈ lw_tbl := tbk_in (k := 6) (List.mem_of_getElem? (i := 178) (rfl : tables_1_6[178]? = some (Cond.code yX11_begins cX11_begins 2 none)))
set_option maxRecDepth 100000 in
theorem gc171 : Cond.code (mY 171) (mC 171) (mL 171) (mR 171) ∈ lw_tbl := tbk_in (k := 6) (List.mem_of_getElem? (i := 181) (rfl : tables_1_6[181]? = some (Cond.code yX11_copies cX11_copies 3 none)))
set_option maxRecDepth 100000 in
theorem gc172 : Cond.code (mY 172) (mC 172) (mL 172) (mR 172) ∈ lw_tbl := tbk_in (k := 7) (List.mem_of_getElem? (i := 98) (rfl : tables_1_7[98]? = some (Cond.code yX11_isPrime cX11_isPrime 2 (some .boolean))))
set_option maxRecDepth 100000 in
theorem gc173 : Cond.code (mY 173) (mC 173) (mL 173) (mR 173) ∈ lw_tbl := tbk_in (k := 7) (List.mem_of_getElem? (i := 37) (rfl : tables_1_7[37]? = some (Cond.code yX11_feed cX11_feed 8 (some .int))))
set_option maxRecDepth 100000 in
theorem gc174 : Cond.code (mY 174) (mC 174) (mL 174) (mR 174) ∈ lw_tbl := tbk_in (k := 7) (List.mem_of_getElem? (i := 59) (rfl : tables_1_7[59]? = some (Cond.code yX11_see cX11_see 2 (some .int))))
set_option maxRecDepth 100000 in
theorem gc175 : Cond.code (mY 175) (mC 175) (mL 175) (mR 175) ∈ lw_tbl := tbk_in (k := 7) (List.mem_of_getElem? (i := 55) (rfl : tables_1_7[55]? = some (Cond.code yX11_isLetter cX11_isLetter 1 (some .boolean))))
set_option maxRecDepth 100000 in
theorem gc176 : Cond.code (mY 176) (mC 176) (mL 176) (mR 176) ∈ lw_tbl := tbk_in (k := 7) (List.mem_of_getElem? (i := 62) (rfl : tables_1_7[62]? = some (Cond.code yX11_isDigit cX11_isDigit 1 (some .boolean))))
set_option maxRecDepth 100000 in
theorem gc177 : Cond.code (mY 177) (mC 177) (mL 177) (mR 177) ∈ lw_tbl := tbk_in (k := 7) (List.mem_of_getElem? (i := 52) (rfl : tables_1_7[52]? = some (Cond.code yX11_reads cX11_reads 2 none)))
set_option maxRecDepth 100000 in
theorem gc178 : Cond.code (mY 178) (mC 178) (mL 178) (mR 178) ∈ lw_tbl := tbk_in (k := 7) (List.mem_of_getElem? (i := 85) (rfl : tables_1_7[85]? = some (Cond.code yX11_blames cX11_blames 2 none)))
set_option maxRecDepth 100000 in
theorem gc179 : Cond.code (mY 179) (mC 179) (mL 179) (mR 179) ∈ lw_tbl := tbk_in (k := 7) (List.mem_of_getElem? (i := 79) (rfl : tables_1_7[79]? = some (Cond.code yX11_isWord cX11_isWord 4 (some .boolean))))
set_option maxRecDepth 100000 in
theorem gc180 : Cond.code (mY 180) (mC 180) (mL 180) (mR 180) ∈ lw_tbl := tbk_in (k := 7) (List.mem_of_getElem? (i := 75) (rfl : tables_1_7[75]? = some (Cond.code yX11_took cX11_took 3 (some .boolean))))
set_option maxRecDepth 100000 in
theorem gc181 : Cond.code (mY 181) (mC 181) (mL 181) (mR 181) ∈ lw_tbl := tbk_in (k := 7) (List.mem_of_getElem? (i := 71) (rfl : tables_1_7[71]? = some (Cond.code yX11_must cX11_must 2 none)))
set_option maxRecDepth 100000 in
theorem gc182 : Cond.code (mY 182) (mC 182) (mL 182) (mR 182) ∈ lw_tbl := tbk_in (k := 7) (List.mem_of_getElem? (i := 93) (rfl : tables_1_7[93]? = some (Cond.code yX11_isNumber cX11_isNumber 1 (some .boolean))))
set_option maxRecDepth 100000 in
theorem gc183 : Cond.code (mY 183) (mC 183) (mL 183) (mR 183) ∈ lw_tbl := tbk_in (k := 7) (List.mem_of_getElem? (i := 101) (rfl : tables_1_7[101]? = some (Cond.code yX11_coinOf cX11_coinOf 4 (some .int))))
set_option maxRecDepth 100000 in
theorem gc184 : Cond.code (mY 184) (mC 184) (mL 184) (mR 184) ∈ lw_tbl := tbk_in (k := 7) (List.mem_of_getElem? (i := 89) (rfl : tables_1_7[89]? = some (Cond.code yX11_readPrime cX11_readPrime 1 none)))
set_option maxRecDepth 100000 in
theorem gc185 : Cond.code (mY 185) (mC 185) (mL 185) (mR 185) ∈ lw_tbl := tbk_in (k := 7) (List.mem_of_getElem? (i := 66) (rfl : tables_1_7[66]? = some (Cond.code yX11_readMint cX11_readMint 1 none)))
set_option maxRecDepth 100000 in
theorem gc186 : Cond.code (mY 186) (mC 186) (mL 186) (mR 186) ∈ lw_tbl := tbk_in (k := 7) (List.mem_of_getElem? (i := 118) (rfl : tables_1_7[118]? = some (Cond.code yX11_inPurse cX11_inPurse 4 (some .int))))
set_option maxRecDepth 100000 in
theorem gc187 : Cond.code (mY 187) (mC 187) (mL 187) (mR 187) ∈ lw_tbl := tbk_in (k := 7) (List.mem_of_getElem? (i := 114) (rfl : tables_1_7[114]? = some (Cond.code yX11_readPurse cX11_readPurse 4 none)))
set_option maxRecDepth 100000 in
theorem gc188 : Cond.code (mY 188) (mC 188) (mL 188) (mR 188) ∈ lw_tbl := tbk_in (k := 7) (List.mem_of_getElem? (i := 129) (rfl : tables_1_7[129]? = some (Cond.code yX11_readSide cX11_readSide 3 none)))
set_option maxRecDepth 100000 in
theorem gc189 : Cond.code (mY 189) (mC 189) (mL 189) (mR 189) ∈ lw_tbl := tbk_in (k := 7) (List.mem_of_getElem? (i := 125) (rfl : tables_1_7[125]? = some (Cond.code yX11_readChange cX11_readChange 2 none)))
set_option maxRecDepth 100000 in
theorem gc190 : Cond.code (mY 190) (mC 190) (mL 190) (mR 190) ∈ lw_tbl := tbk_in (k := 7) (List.mem_of_getElem? (i := 105) (rfl : tables_1_7[105]? = some (Cond.code yX11_readStop cX11_readStop 1 none)))
set_option maxRecDepth 100000 in
theorem gc191 : Cond.code (mY 191) (mC 191) (mL 191) (mR 191) ∈ lw_tbl := tbk_in (k := 7) (List.mem_of_getElem? (i := 109) (rfl : tables_1_7[109]? = some (Cond.code yX11_readLine cX11_readLine 1 none)))
set_option maxRecDepth 100000 in
theorem gc192 : Cond.code (mY 192) (mC 192) (mL 192) (mR 192) ∈ lw_tbl := tbk_in (k := 7) (List.mem_of_getElem? (i := 41) (rfl : tables_1_7[41]? = some (Cond.code yX11_town cX11_town 2 (some .int))))
set_option maxRecDepth 100000 in
theorem gc193 : Cond.code (mY 193) (mC 193) (mL 193) (mR 193) ∈ lw_tbl := tbk_in (k := 7) (List.mem_of_getElem? (i := 134) (rfl : tables_1_7[134]? = some (Cond.code yX11_fault cX11_fault 2 (some .int))))
set_option maxRecDepth 100000 in
theorem gc194 : Cond.code (mY 194) (mC 194) (mL 194) (mR 194) ∈ lw_tbl := tbk_in (k := 7) (List.mem_of_getElem? (i := 142) (rfl : tables_1_7[142]? = some (Cond.code yX11_coins cX11_coins 1 (some .int))))
set_option maxRecDepth 100000 in
theorem gc195 : Cond.code (mY 195) (mC 195) (mL 195) (mR 195) ∈ lw_tbl := tbk_in (k := 7) (List.mem_of_getElem? (i := 158) (rfl : tables_1_7[158]? = some (Cond.code yX11_people cX11_people 1 (some .int))))
set_option maxRecDepth 100000 in
theorem gc196 : Cond.code (mY 196) (mC 196) (mL 196) (mR 196) ∈ lw_tbl := tbk_in (k := 7) (List.mem_of_getElem? (i := 154) (rfl : tables_1_7[154]? = some (Cond.code yX11_isPerson cX11_isPerson 3 (some .boolean))))
set_option maxRecDepth 100000 in
theorem gc197 : Cond.code (mY 197) (mC 197) (mL 197) (mR 197) ∈ lw_tbl := tbk_in (k := 7) (List.mem_of_getElem? (i := 146) (rfl : tables_1_7[146]? = some (Cond.code yX11_prime cX11_prime 2 (some .int))))
set_option maxRecDepth 100000 in
theorem gc198 : Cond.code (mY 198) (mC 198) (mL 198) (mR 198) ∈ lw_tbl := tbk_in (k := 7) (List.mem_of_getElem? (i := 162) (rfl : tables_1_7[162]? = some (Cond.code yX11_of cX11_of 3 (some .int))))
set_option maxRecDepth 100000 in
theorem gc199 : Cond.code (mY 199) (mC 199) (mL 199) (mR 199) ∈ lw_tbl := tbk_in (k := 7) (List.mem_of_getElem? (i := 173) (rfl : tables_1_7[173]? = some (Cond.code yX11_size cX11_size 4 (some .int))))
set_option maxRecDepth 100000 in
theorem gc200 : Cond.code (mY 200) (mC 200) (mL 200) (mR 200) ∈ lw_tbl := tbk_in (k := 7) (List.mem_of_getElem? (i := 181) (rfl : tables_1_7[181]? = some (Cond.code yX11_worthOf cX11_worthOf 6 (some .long))))
set_option maxRecDepth 100000 in
theorem gc201 : Cond.code (mY 201) (mC 201) (mL 201) (mR 201) ∈ lw_tbl := tbk_in (k := 7) (List.mem_of_getElem? (i := 138) (rfl : tables_1_7[138]? = some (Cond.code yX11_coin cX11_coin 2 (some .int))))
set_option maxRecDepth 100000 in
theorem gc202 : Cond.code (mY 202) (mC 202) (mL 202) (mR 202) ∈ lw_tbl := tbk_in (k := 7) (List.mem_of_getElem? (i := 150) (rfl : tables_1_7[150]? = some (Cond.code yX11_has cX11_has 4 (some .int))))
set_option maxRecDepth 100000 in
theorem gc203 : Cond.code (mY 203) (mC 203) (mL 203) (mR 203) ∈ lw_tbl := tbk_in (k := 7) (List.mem_of_getElem? (i := 166) (rfl : tables_1_7[166]? = some (Cond.code yX11_purse cX11_purse 7 (some .int))))
set_option maxRecDepth 100000 in
theorem gc204 : Cond.code (mY 204) (mC 204) (mL 204) (mR 204) ∈ lw_tbl := tbk_in (k := 7) (List.mem_of_getElem? (i := 177) (rfl : tables_1_7[177]? = some (Cond.code yX11_worth cX11_worth 2 (some .long))))
set_option maxRecDepth 100000 in
theorem gc205 : Cond.code (mY 205) (mC 205) (mL 205) (mR 205) ∈ lw_tbl := tbk_in (k := 7) (List.mem_of_getElem? (i := 185) (rfl : tables_1_7[185]? = some (Cond.code yX11_change cX11_change 6 (some .int))))
set_option maxRecDepth 100000 in
theorem gc206 : Cond.code (mY 206) (mC 206) (mL 206) (mR 206) ∈ lw_tbl := tbk_in (k := 7) (List.mem_of_getElem? (i := 201) (rfl : tables_1_7[201]? = some (Cond.code yX11_laysPrice cX11_laysPrice 6 (some .boolean))))
set_option maxRecDepth 100000 in
theorem gc207 : Cond.code (mY 207) (mC 207) (mL 207) (mR 207) ∈ lw_tbl := tbk_in (k := 7) (List.mem_of_getElem? (i := 209) (rfl : tables_1_7[209]? = some (Cond.code yX11_askedMany cX11_askedMany 3 (some .int))))
set_option maxRecDepth 100000 in
theorem gc208 : Cond.code (mY 208) (mC 208) (mL 208) (mR 208) ∈ lw_tbl := tbk_in (k := 7) (List.mem_of_getElem? (i := 205) (rfl : tables_1_7[205]? = some (Cond.code yX11_hasAll cX11_hasAll 3 (some .boolean))))
set_option maxRecDepth 100000 in
theorem gc209 : Cond.code (mY 209) (mC 209) (mL 209) (mR 209) ∈ lw_tbl := tbk_in (k := 7) (List.mem_of_getElem? (i := 197) (rfl : tables_1_7[197]? = some (Cond.code yX11_whyNot cX11_whyNot 5 (some .int))))
set_option maxRecDepth 100000 in
theorem gc210 : Cond.code (mY 210) (mC 210) (mL 210) (mR 210) ∈ lw_tbl := tbk_in (k := 7) (List.mem_of_getElem? (i := 193) (rfl : tables_1_7[193]? = some (Cond.code yX11_payFault cX11_payFault 3 (some .int))))
set_option maxRecDepth 100000 in
theorem gc211 : Cond.code (mY 211) (mC 211) (mL 211) (mR 211) ∈ lw_tbl := tbk_in (k := 7) (List.mem_of_getElem? (i := 189) (rfl : tables_1_7[189]? = some (Cond.code yX11_may cX11_may 5 (some .int))))
set_option maxRecDepth 100000 in
theorem gc212 : Cond.code (mY 212) (mC 212) (mL 212) (mR 212) ∈ lw_tbl := tbk_in (k := 7) (List.mem_of_getElem? (i := 213) (rfl : tables_1_7[213]? = some (Cond.code yX11_pay cX11_pay 7 (some .int))))
set_option maxRecDepth 100000 in
theorem gc213 : Cond.code (mY 213) (mC 213) (mL 213) (mR 213) ∈ lw_tbl := tbk_in (k := 7) (List.mem_of_getElem? (i := 221) (rfl : tables_1_7[221]? = some (Cond.code yX11_side cX11_side 4 (some .int))))
set_option maxRecDepth 100000 in
theorem gc214 : Cond.code (mY 214) (mC 214) (mL 214) (mR 214) ∈ lw_tbl := tbk_in (k := 7) (List.mem_of_getElem? (i := 217) (rfl : tables_1_7[217]? = some (Cond.code yX11_changes cX11_changes 5 (some .int))))
set_option maxRecDepth 100000 in
theorem gc215 : Cond.code (mY 215) (mC 215) (mL 215) (mR 215) ∈ lw_tbl := tbk_in (k := 7) (List.mem_of_getElem? (i := 229) (rfl : tables_1_7[229]? = some (Cond.code yX11_taxes cX11_taxes 4 (some .int))))
set_option maxRecDepth 100000 in
theorem gc216 : Cond.code (mY 216) (mC 216) (mL 216) (mR 216) ∈ lw_tbl := tbk_in (k := 7) (List.mem_of_getElem? (i := 225) (rfl : tables_1_7[225]? = some (Cond.code yX11_tax cX11_tax 3 (some .int))))
set_option maxRecDepth 100000 in
theorem gc217 : Cond.code (mY 217) (mC 217) (mL 217) (mR 217) ∈ lw_tbl := tbk_in (k := 7) (List.mem_of_getElem? (i := 233) (rfl : tables_1_7[233]? = some (Cond.code yX11_strike cX11_strike 4 (some .int))))
set_option maxRecDepth 100000 in
theorem gc218 : Cond.code (mY 218) (mC 218) (mL 218) (mR 218) ∈ lw_tbl := tbk_in (k := 7) (List.mem_of_getElem? (i := 237) (rfl : tables_1_7[237]? = some (Cond.code yX11_treasury cX11_treasury 3 (some .int))))
set_option maxRecDepth 100000 in
theorem gc219 : Cond.code (mY 219) (mC 219) (mL 219) (mR 219) ∈ lw_tbl := tbk_in (k := 8) (List.mem_of_getElem? (i := 1) (rfl : tables_1_8[1]? = some (Cond.code yX11_readOut cX11_readOut 7 (some .long))))
set_option maxRecDepth 100000 in
theorem gc220 : Cond.code (mY 220) (mC 220) (mL 220) (mR 220) ∈ lw_tbl := tbk_in (k := 8) (List.mem_of_getElem? (i := 11) (rfl : tables_1_8[11]? = some (Cond.code yX11_draw cX11_draw 2 (some .int))))
set_option maxRecDepth 100000 in
theorem gc221 : Cond.code (mY 221) (mC 221) (mL 221) (mR 221) ∈ lw_tbl := tbk_in (k := 8) (List.mem_of_getElem? (i := 6) (rfl : tables_1_8[6]? = some (Cond.code yX11_year cX11_year 7 (some .int))))
set_option maxRecDepth 100000 in
theorem gc222 : Cond.code (mY 222) (mC 222) (mL 222) (mR 222) ∈ lw_tbl := tbk_in (k := 8) (List.mem_of_getElem? (i := 20) (rfl : tables_1_8[20]? = some (Cond.code yX11_trayFault cX11_trayFault 2 (some .int))))
set_option maxRecDepth 100000 in
theorem gc223 : Cond.code (mY 223) (mC 223) (mL 223) (mR 223) ∈ lw_tbl := tbk_in (k := 8) (List.mem_of_getElem? (i := 31) (rfl : tables_1_8[31]? = some (Cond.code yX11_dealWhy cX11_dealWhy 4 (some .int))))
set_option maxRecDepth 100000 in
theorem gc224 : Cond.code (mY 224) (mC 224) (mL 224) (mR 224) ∈ lw_tbl := tbk_in (k := 8) (List.mem_of_getElem? (i := 27) (rfl : tables_1_8[27]? = some (Cond.code yX11_goesBy cX11_goesBy 5 (some .int))))
set_option maxRecDepth 100000 in
theorem gc225 : Cond.code (mY 225) (mC 225) (mL 225) (mR 225) ∈ lw_tbl := tbk_in (k := 8) (List.mem_of_getElem? (i := 38) (rfl : tables_1_8[38]? = some (Cond.code yX11_richest cX11_richest 3 (some .int))))
set_option maxRecDepth 100000 in
theorem gc226 : Cond.code (mY 226) (mC 226) (mL 226) (mR 226) ∈ lw_tbl := tbk_in (k := 8) (List.mem_of_getElem? (i := 16) (rfl : tables_1_8[16]? = some (Cond.code yX11_judge cX11_judge 6 (some .int))))
set_option maxRecDepth 100000 in
theorem gc227 : Cond.code (mY 227) (mC 227) (mL 227) (mR 227) ∈ lw_tbl := tbk_in (k := 8) (List.mem_of_getElem? (i := 42) (rfl : tables_1_8[42]? = some (Cond.code yX11_perform cX11_perform 2 (some .int))))
set_option maxRecDepth 100000 in
theorem gc228 : Cond.code (mY 228) (mC 228) (mL 228) (mR 228) ∈ lw_tbl := tbk_in (k := 8) (List.mem_of_getElem? (i := 50) (rfl : tables_1_8[50]? = some (Cond.code yX11_laysPrices cX11_laysPrices 8 none)))
set_option maxRecDepth 100000 in
theorem gc229 : Cond.code (mY 229) (mC 229) (mL 229) (mR 229) ∈ lw_tbl := tbk_in (k := 8) (List.mem_of_getElem? (i := 46) (rfl : tables_1_8[46]? = some (Cond.code yX11_prices cX11_prices 2 (some .int))))
set_option maxRecDepth 100000 in
theorem gc230 : Cond.code (mY 230) (mC 230) (mL 230) (mR 230) ∈ lw_tbl := tbk_in (k := 8) (List.mem_of_getElem? (i := 54) (rfl : tables_1_8[54]? = some (Cond.code yX11_price cX11_price 3 (some .long))))
set_option maxRecDepth 100000 in
theorem gc231 : Cond.code (mY 231) (mC 231) (mL 231) (mR 231) ∈ lw_tbl := tbk_in (k := 8) (List.mem_of_getElem? (i := 59) (rfl : tables_1_8[59]? = some (Cond.code yX11_gap cX11_gap 5 (some .long))))
set_option maxRecDepth 100000 in
theorem gc232 : Cond.code (mY 232) (mC 232) (mL 232) (mR 232) ∈ lw_tbl := tbk_in (k := 8) (List.mem_of_getElem? (i := 64) (rfl : tables_1_8[64]? = some (Cond.code yX11_nearest cX11_nearest 5 (some .long))))
set_option maxRecDepth 100000 in
theorem gc233 : Cond.code (mY 233) (mC 233) (mL 233) (mR 233) ∈ lw_tbl := tbk_in (k := 8) (List.mem_of_getElem? (i := 68) (rfl : tables_1_8[68]? = some (Cond.code yX11_half cX11_half 7 (some .long))))
set_option maxRecDepth 100000 in
theorem gc234 : Cond.code (mY 234) (mC 234) (mL 234) (mR 234) ∈ lw_tbl := tbk_in (k := 8) (List.mem_of_getElem? (i := 79) (rfl : tables_1_8[79]? = some (Cond.code yX11_ten cX11_ten 3 (some .int))))
set_option maxRecDepth 100000 in
theorem gc235 : Cond.code (mY 235) (mC 235) (mL 235) (mR 235) ∈ lw_tbl := tbk_in (k := 8) (List.mem_of_getElem? (i := 83) (rfl : tables_1_8[83]? = some (Cond.code yX11_meets cX11_meets 3 none)))
set_option maxRecDepth 100000 in
theorem gc236 : Cond.code (mY 236) (mC 236) (mL 236) (mR 236) ∈ lw_tbl := tbk_in (k := 8) (List.mem_of_getElem? (i := 87) (rfl : tables_1_8[87]? = some (Cond.code yX11_isAsked cX11_isAsked 3 (some .boolean))))
set_option maxRecDepth 100000 in
theorem gc237 : Cond.code (mY 237) (mC 237) (mL 237) (mR 237) ∈ lw_tbl := tbk_in (k := 8) (List.mem_of_getElem? (i := 91) (rfl : tables_1_8[91]? = some (Cond.code yX11_changed cX11_changed 7 (some .int))))
set_option maxRecDepth 100000 in
theorem gc238 : Cond.code (mY 238) (mC 238) (mL 238) (mR 238) ∈ lw_tbl := tbk_in (k := 8) (List.mem_of_getElem? (i := 72) (rfl : tables_1_8[72]? = some (Cond.code yX11_fewest cX11_fewest 10 (some .int))))
set_option maxRecDepth 100000 in
theorem gc239 : Cond.code (mY 239) (mC 239) (mL 239) (mR 239) ∈ lw_tbl := tbk_in (k := 8) (List.mem_of_getElem? (i := 95) (rfl : tables_1_8[95]? = some (Cond.code yX11_between cX11_between 8 (some .int))))
set_option maxRecDepth 100000 in
theorem gc240 : Cond.code (mY 240) (mC 240) (mL 240) (mR 240) ∈ lw_tbl := tbk_in (k := 8) (List.mem_of_getElem? (i := 99) (rfl : tables_1_8[99]? = some (Cond.code yX11_dear cX11_dear 5 (some .int))))
set_option maxRecDepth 100000 in
theorem gc241 : Cond.code (mY 241) (mC 241) (mL 241) (mR 241) ∈ lw_tbl := tbk_in (k := 8) (List.mem_of_getElem? (i := 107) (rfl : tables_1_8[107]? = some (Cond.code yX11_sideOf cX11_sideOf 7 (some .long))))
set_option maxRecDepth 100000 in
theorem gc242 : Cond.code (mY 242) (mC 242) (mL 242) (mR 242) ∈ lw_tbl := tbk_in (k := 8) (List.mem_of_getElem? (i := 103) (rfl : tables_1_8[103]? = some (Cond.code yX11_gainer cX11_gainer 3 (some .int))))
set_option maxRecDepth 100000 in
theorem gc243 : Cond.code (mY 243) (mC 243) (mL 243) (mR 243) ∈ lw_tbl := tbk_in (k := 8) (List.mem_of_getElem? (i := 117) (rfl : tables_1_8[117]? = some (Cond.code yX11_worthBy cX11_worthBy 6 (some .long))))
set_option maxRecDepth 100000 in
theorem gc244 : Cond.code (mY 244) (mC 244) (mL 244) (mR 244) ∈ lw_tbl := tbk_in (k := 8) (List.mem_of_getElem? (i := 76) (rfl : tables_1_8[76]? = some (Cond.code yX11_beginsMet cX11_beginsMet 4 none)))
set_option maxRecDepth 100000 in
theorem gc245 : Cond.code (mY 245) (mC 245) (mL 245) (mR 245) ∈ lw_tbl := tbk_in (k := 8) (List.mem_of_getElem? (i := 111) (rfl : tables_1_8[111]? = some (Cond.code yX11_grows cX11_grows 9 (some .long))))
set_option maxRecDepth 100000 in
theorem gc246 : Cond.code (mY 246) (mC 246) (mL 246) (mR 246) ∈ lw_tbl := tbk_in (k := 8) (List.mem_of_getElem? (i := 121) (rfl : tables_1_8[121]? = some (Cond.code yX11_swap cX11_swap 12 (some .long))))
set_option maxRecDepth 100000 in
theorem gc247 : Cond.code (mY 247) (mC 247) (mL 247) (mR 247) ∈ lw_tbl := tbk_in (k := 8) (List.mem_of_getElem? (i := 133) (rfl : tables_1_8[133]? = some (Cond.code yX11_haveAll cX11_haveAll 5 (some .boolean))))
set_option maxRecDepth 100000 in
theorem gc248 : Cond.code (mY 248) (mC 248) (mL 248) (mR 248) ∈ lw_tbl := tbk_in (k := 8) (List.mem_of_getElem? (i := 129) (rfl : tables_1_8[129]? = some (Cond.code yX11_bits cX11_bits 3 (some .int))))
set_option maxRecDepth 100000 in
theorem gc249 : Cond.code (mY 249) (mC 249) (mL 249) (mR 249) ∈ lw_tbl := tbk_in (k := 8) (List.mem_of_getElem? (i := 126) (rfl : tables_1_8[126]? = some (Cond.code yX11_together cX11_together 8 (some .int))))
set_option maxRecDepth 100000 in
theorem gc250 : Cond.code (mY 250) (mC 250) (mL 250) (mR 250) ∈ lw_tbl := tbk_in (k := 8) (List.mem_of_getElem? (i := 137) (rfl : tables_1_8[137]? = some (Cond.code yX11_common cX11_common 7 (some .long))))
set_option maxRecDepth 100000 in
theorem gc251 : Cond.code (mY 251) (mC 251) (mL 251) (mR 251) ∈ lw_tbl := tbk_in (k := 8) (List.mem_of_getElem? (i := 141) (rfl : tables_1_8[141]? = some (Cond.code yX11_least cX11_least 5 (some .int))))
set_option maxRecDepth 100000 in
theorem gc252 : Cond.code (mY 252) (mC 252) (mL 252) (mR 252) ∈ lw_tbl := tbk_in (k := 8) (List.mem_of_getElem? (i := 149) (rfl : tables_1_8[149]? = some (Cond.code yX11_areFriends cX11_areFriends 5 (some .boolean))))
set_option maxRecDepth 100000 in
theorem gc253 : Cond.code (mY 253) (mC 253) (mL 253) (mR 253) ∈ lw_tbl := tbk_in (k := 8) (List.mem_of_getElem? (i := 145) (rfl : tables_1_8[145]? = some (Cond.code yX11_friends cX11_friends 3 (some .int))))
set_option maxRecDepth 100000 in
theorem gc254 : Cond.code (mY 254) (mC 254) (mL 254) (mR 254) ∈ lw_tbl := tbk_in (k := 8) (List.mem_of_getElem? (i := 153) (rfl : tables_1_8[153]? = some (Cond.code yX11_stolen cX11_stolen 8 (some .int))))
set_option maxRecDepth 100000 in
theorem gc255 : Cond.code (mY 255) (mC 255) (mL 255) (mR 255) ∈ lw_tbl := tbk_in (k := 8) (List.mem_of_getElem? (i := 166) (rfl : tables_1_8[166]? = some (Cond.code yX11_isFitting cX11_isFitting 5 (some .boolean))))
set_option maxRecDepth 100000 in
theorem gc256 : Cond.code (mY 256) (mC 256) (mL 256) (mR 256) ∈ lw_tbl := tbk_in (k := 8) (List.mem_of_getElem? (i := 162) (rfl : tables_1_8[162]? = some (Cond.code yX11_bags cX11_bags 8 (some .int))))
set_option maxRecDepth 100000 in
theorem gc257 : Cond.code (mY 257) (mC 257) (mL 257) (mR 257) ∈ lw_tbl := tbk_in (k := 8) (List.mem_of_getElem? (i := 157) (rfl : tables_1_8[157]? = some (Cond.code yX11_fitting cX11_fitting 7 (some .long))))
set_option maxRecDepth 100000 in
theorem gc258 : Cond.code (mY 258) (mC 258) (mL 258) (mR 258) ∈ lw_tbl := tbk_in (k := 8) (List.mem_of_getElem? (i := 176) (rfl : tables_1_8[176]? = some (Cond.code yX11_leastFactor cX11_leastFactor 2 (some .int))))
set_option maxRecDepth 100000 in
theorem gc259 : Cond.code (mY 259) (mC 259) (mL 259) (mR 259) ∈ lw_tbl := tbk_in (k := 8) (List.mem_of_getElem? (i := 173) (rfl : tables_1_8[173]? = some (Cond.code yX11_isCounted cX11_isCounted 1 (some .boolean))))
set_option maxRecDepth 100000 in
theorem gc260 : Cond.code (mY 260) (mC 260) (mL 260) (mR 260) ∈ lw_tbl := tbk_in (k := 8) (List.mem_of_getElem? (i := 170) (rfl : tables_1_8[170]? = some (Cond.code yX11_trial cX11_trial 3 (some .int))))
set_option maxRecDepth 100000 in
theorem gc261 : Cond.code (mY 261) (mC 261) (mL 261) (mR 261) ∈ lw_tbl := tbk_in (k := 8) (List.mem_of_getElem? (i := 180) (rfl : tables_1_8[180]? = some (Cond.code yX11_squares cX11_squares 6 (some .int))))
set_option maxRecDepth 100000 in
theorem gc262 : Cond.code (mY 262) (mC 262) (mL 262) (mR 262) ∈ lw_tbl := tbk_in (k := 8) (List.mem_of_getElem? (i := 189) (rfl : tables_1_8[189]? = some (Cond.code yX11_shared cX11_shared 10 (some .long))))
set_option maxRecDepth 100000 in
theorem gc263 : Cond.code (mY 263) (mC 263) (mL 263) (mR 263) ∈ lw_tbl := tbk_in (k := 8) (List.mem_of_getElem? (i := 185) (rfl : tables_1_8[185]? = some (Cond.code yX11_rounds cX11_rounds 11 (some .int))))
set_option maxRecDepth 100000 in
theorem gc264 : Cond.code (mY 264) (mC 264) (mL 264) (mR 264) ∈ lw_tbl := tbk_in (k := 8) (List.mem_of_getElem? (i := 193) (rfl : tables_1_8[193]? = some (Cond.code yX11_factor cX11_factor 6 (some .int))))
set_option maxRecDepth 100000 in
theorem gc265 : Cond.code (mY 265) (mC 265) (mL 265) (mR 265) ∈ lw_tbl := tbk_in (k := 8) (List.mem_of_getElem? (i := 197) (rfl : tables_1_8[197]? = some (Cond.code yX11_smooth cX11_smooth 7 (some .int))))
set_option maxRecDepth 100000 in
theorem gc266 : Cond.code (mY 266) (mC 266) (mL 266) (mR 266) ∈ lw_tbl := tbk_in (k := 8) (List.mem_of_getElem? (i := 202) (rfl : tables_1_8[202]? = some (Cond.code yX11_primesTo cX11_primesTo 4 (some .int))))
set_option maxRecDepth 100000 in
theorem gc267 : Cond.code (mY 267) (mC 267) (mL 267) (mR 267) ∈ lw_tbl := tbk_in (k := 8) (List.mem_of_getElem? (i := 209) (rfl : tables_1_8[209]? = some (Cond.code yX11_powerBy cX11_powerBy 10 (some .long))))
set_option maxRecDepth 100000 in
theorem gc268 : Cond.code (mY 268) (mC 268) (mL 268) (mR 268) ∈ lw_tbl := tbk_in (k := 8) (List.mem_of_getElem? (i := 206) (rfl : tables_1_8[206]? = some (Cond.code yX11_witness cX11_witness 3 (some .int))))
set_option maxRecDepth 100000 in
theorem gc269 : Cond.code (mY 269) (mC 269) (mL 269) (mR 269) ∈ lw_tbl := tbk_in (k := 8) (List.mem_of_getElem? (i := 213) (rfl : tables_1_8[213]? = some (Cond.code yX11_order cX11_order 5 (some .int))))
set_option maxRecDepth 100000 in
theorem gc270 : Cond.code (mY 270) (mC 270) (mL 270) (mR 270) ∈ lw_tbl := tbk_in (k := 8) (List.mem_of_getElem? (i := 222) (rfl : tables_1_8[222]? = some (Cond.code yX11_debt cX11_debt 3 (some .int))))
set_option maxRecDepth 100000 in
theorem gc271 : Cond.code (mY 271) (mC 271) (mL 271) (mR 271) ∈ lw_tbl := tbk_in (k := 8) (List.mem_of_getElem? (i := 218) (rfl : tables_1_8[218]? = some (Cond.code yX11_owe cX11_owe 5 (some .long))))
set_option maxRecDepth 100000 in
theorem gc272 : Cond.code (mY 272) (mC 272) (mL 272) (mR 272) ∈ lw_tbl := tbk_in (k := 8) (List.mem_of_getElem? (i := 226) (rfl : tables_1_8[226]? = some (Cond.code yX11_owed cX11_owed 3 (some .long))))
set_option maxRecDepth 100000 in
theorem gc273 : Cond.code (mY 273) (mC 273) (mL 273) (mR 273) ∈ lw_tbl := tbk_in (k := 8) (List.mem_of_getElem? (i := 238) (rfl : tables_1_8[238]? = some (Cond.code yX11_strikes cX11_strikes 9 (some .boolean))))
set_option maxRecDepth 100000 in
theorem gc274 : Cond.code (mY 274) (mC 274) (mL 274) (mR 274) ∈ lw_tbl := tbk_in (k := 8) (List.mem_of_getElem? (i := 234) (rfl : tables_1_8[234]? = some (Cond.code yX11_strikesFirst cX11_strikesFirst 4 (some .boolean))))
set_option maxRecDepth 100000 in
theorem gc275 : Cond.code (mY 275) (mC 275) (mL 275) (mR 275) ∈ lw_tbl := tbk_in (k := 8) (List.mem_of_getElem? (i := 230) (rfl : tables_1_8[230]? = some (Cond.code yX11_struck cX11_struck 2 (some .int))))
set_option maxRecDepth 100000 in
theorem gc276 : Cond.code (mY 276) (mC 276) (mL 276) (mR 276) ∈ lw_tbl := tbk_in (k := 8) (List.mem_of_getElem? (i := 23) (rfl : tables_1_8[23]? = some (Cond.code yX11_isTray cX11_isTray 1 (some .boolean))))
set_option maxRecDepth 100000 in
theorem gc277 : Cond.code (mY 277) (mC 277) (mL 277) (mR 277) ∈ lw_tbl := tbk_in (k := 9) (List.mem_of_getElem? (i := 2) (rfl : tables_1_9[2]? = some (Cond.code yX11_tray cX11_tray 5 none)))
set_option maxRecDepth 100000 in
theorem gc278 : Cond.code (mY 278) (mC 278) (mL 278) (mR 278) ∈ lw_tbl := tbk_in (k := 9) (List.mem_of_getElem? (i := 11) (rfl : tables_1_9[11]? = some (Cond.code yX11_cut cX11_cut 6 (some .long))))
set_option maxRecDepth 100000 in
theorem gc279 : Cond.code (mY 279) (mC 279) (mL 279) (mR 279) ∈ lw_tbl := tbk_in (k := 9) (List.mem_of_getElem? (i := 7) (rfl : tables_1_9[7]? = some (Cond.code yX11_write cX11_write 5 (some .long))))
set_option maxRecDepth 100000 in
theorem gc280 : Cond.code (mY 280) (mC 280) (mL 280) (mR 280) ∈ lw_tbl := tbk_in (k := 9) (List.mem_of_getElem? (i := 15) (rfl : tables_1_9[15]? = some (Cond.code yX11_pour cX11_pour 4 (some .int))))
set_option maxRecDepth 100000 in
theorem gc281 : Cond.code (mY 281) (mC 281) (mL 281) (mR 281) ∈ lw_tbl := tbk_in (k := 9) (List.mem_of_getElem? (i := 19) (rfl : tables_1_9[19]? = some (Cond.code yX11_image cX11_image 3 none)))
set_option maxRecDepth 100000 in
theorem gc282 : Cond.code (mY 282) (mC 282) (mL 282) (mR 282) ∈ lw_tbl := tbk_in (k := 9) (List.mem_of_getElem? (i := 23) (rfl : tables_1_9[23]? = some (Cond.code yX11_restore cX11_restore 3 none)))
set_option maxRecDepth 100000 in
theorem gc283 : Cond.code (mY 283) (mC 283) (mL 283) (mR 283) ∈ lw_tbl := tbk_in (k := 9) (List.mem_of_getElem? (i := 27) (rfl : tables_1_9[27]? = some (Cond.code yX11_count cX11_count 7 (some .int))))
set_option maxRecDepth 100000 in
theorem gc284 : Cond.code (mY 284) (mC 284) (mL 284) (mR 284) ∈ lw_tbl := tbk_in (k := 2) (List.mem_of_getElem? (i := 103) (rfl : tables_1_2[103]? = some (Cond.code yJ6_bitCount_0f7a4 cJ6_bitCount_0f7a4 1 (some .int))))
set_option maxRecDepth 100000 in
theorem gc285 : Cond.code (mY 285) (mC 285) (mL 285) (mR 285) ∈ lw_tbl := tbk_in (k := 3) (List.mem_of_getElem? (i := 63) (rfl : tables_1_3[63]? = some (Cond.code yJ0_length_8abf5 cJ0_length_8abf5 1 (some .int))))
set_option maxRecDepth 100000 in
theorem gc286 : Cond.code (mY 286) (mC 286) (mL 286) (mR 286) ∈ lw_tbl := tbk_in (k := 3) (List.mem_of_getElem? (i := 73) (rfl : tables_1_3[73]? = some (Cond.code yJ0_charAt_5068e cJ0_charAt_5068e 2 (some .char))))
set_option maxRecDepth 100000 in
theorem gc287 : Cond.code (mY 287) (mC 287) (mL 287) (mR 287) ∈ lw_tbl := tbk_in (k := 3) (List.mem_of_getElem? (i := 67) (rfl : tables_1_3[67]? = some (Cond.code yJ0_coder_7d493 cJ0_coder_7d493 1 (some .byte))))
set_option maxRecDepth 100000 in
theorem gc288 : Cond.code (mY 288) (mC 288) (mL 288) (mR 288) ∈ lw_tbl := tbk_in (k := 3) (List.mem_of_getElem? (i := 77) (rfl : tables_1_3[77]? = some (Cond.code yJ0_isLatin1_aae02 cJ0_isLatin1_aae02 1 (some .boolean))))
set_option maxRecDepth 100000 in
theorem gc289 : Cond.code (mY 289) (mC 289) (mL 289) (mR 289) ∈ lw_tbl := tbk_in (k := 3) (List.mem_of_getElem? (i := 83) (rfl : tables_1_3[83]? = some (Cond.code yJ0_checkIndex_df160 cJ0_checkIndex_df160 2 none)))
set_option maxRecDepth 100000 in
theorem gc290 : Cond.code (mY 290) (mC 290) (mL 290) (mR 290) ∈ lw_tbl := tbk_in (k := 3) (List.mem_of_getElem? (i := 80) (rfl : tables_1_3[80]? = some (Cond.code yJ1_charAt_3b067 cJ1_charAt_3b067 2 (some .char))))
set_option maxRecDepth 100000 in
theorem gc291 : Cond.code (mY 291) (mC 291) (mL 291) (mR 291) ∈ lw_tbl := tbk_in (k := 1) (List.mem_of_getElem? (i := 50) (rfl : tables_1_1[50]? = some (Cond.code yJ7_fill_d0a16 cJ7_fill_d0a16 5 none)))
set_option maxRecDepth 100000 in
theorem gc292 : Cond.code (mY 292) (mC 292) (mL 292) (mR 292) ∈ lw_tbl := tbk_in (k := 3) (List.mem_of_getElem? (i := 129) (rfl : tables_1_3[129]? = some (Cond.code yJ7_fill_53178 cJ7_fill_53178 4 none)))
set_option maxRecDepth 100000 in
theorem gc293 : Cond.code (mY 293) (mC 293) (mL 293) (mR 293) ∈ lw_tbl := tbk_in (k := 3) (List.mem_of_getElem? (i := 88) (rfl : tables_1_3[88]? = some (Cond.code yJ3_checkIndex_8e157 cJ3_checkIndex_8e157 3 (some .int))))
theorem gb_code0 : ∀ w ∈ codeW 0, w ∈ lw_tbl ∧ goodWord w = true := by
  intro w hw
  obtain ⟨i, hi, rfl⟩ := List.mem_map.mp hw
  have hi : i < 50 := List.mem_range.mp hi
  refine ⟨?_, rfl⟩
  match i, hi with
  | 0, _ => exact gc0
  | 1, _ => exact gc1
  | 2, _ => exact gc2
  | 3, _ => exact gc3
  | 4, _ => exact gc4
  | 5, _ => exact gc5
  | 6, _ => exact gc6
  | 7, _ => exact gc7
  | 8, _ => exact gc8
  | 9, _ => exact gc9
  | 10, _ => exact gc10
  | 11, _ => exact gc11
  | 12, _ => exact gc12
  | 13, _ => exact gc13
  | 14, _ => exact gc14
  | 15, _ => exact gc15
  | 16, _ => exact gc16
  | 17, _ => exact gc17
  | 18, _ => exact gc18
  | 19, _ => exact gc19
  | 20, _ => exact gc20
  | 21, _ => exact gc21
  | 22, _ => exact gc22
  | 23, _ => exact gc23
  | 24, _ => exact gc24
  | 25, _ => exact gc25
  | 26, _ => exact gc26
  | 27, _ => exact gc27
  | 28, _ => exact gc28
  | 29, _ => exact gc29
  | 30, _ => exact gc30
  | 31, _ => exact gc31
  | 32, _ => exact gc32
  | 33, _ => exact gc33
  | 34, _ => exact gc34
  | 35, _ => exact gc35
  | 36, _ => exact gc36
  | 37, _ => exact gc37
  | 38, _ => exact gc38
  | 39, _ => exact gc39
  | 40, _ => exact gc40
  | 41, _ => exact gc41
  | 42, _ => exact gc42
  | 43, _ => exact gc43
  | 44, _ => exact gc44
  | 45, _ => exact gc45
  | 46, _ => exact gc46
  | 47, _ => exact gc47
  | 48, _ => exact gc48
  | 49, _ => exact gc49
  | i + 50, hi => omega
theorem gb_code1 : ∀ w ∈ codeW 1, w ∈ lw_tbl ∧ goodWord w = true := by
  intro w hw
  obtain ⟨i, hi, rfl⟩ := List.mem_map.mp hw
  have hi : i < 50 := List.mem_range.mp hi
  refine ⟨?_, rfl⟩
  match i, hi with
  | 0, _ => exact gc50
  | 1, _ => exact gc51
  | 2, _ => exact gc52
  | 3, _ => exact gc53
  | 4, _ => exact gc54
  | 5, _ => exact gc55
  | 6, _ => exact gc56
  | 7, _ => exact gc57
  | 8, _ => exact gc58
  | 9, _ => exact gc59
  | 10, _ => exact gc60
  | 11, _ => exact gc61
  | 12, _ => exact gc62
  | 13, _ => exact gc63
  | 14, _ => exact gc64
  | 15, _ => exact gc65
  | 16, _ => exact gc66
  | 17, _ => exact gc67
  | 18, _ => exact gc68
  | 19, _ => exact gc69
  | 20, _ => exact gc70
  | 21, _ => exact gc71
  | 22, _ => exact gc72
  | 23, _ => exact gc73
  | 24, _ => exact gc74
  | 25, _ => exact gc75
  | 26, _ => exact gc76
  | 27, _ => exact gc77
  | 28, _ => exact gc78
  | 29, _ => exact gc79
  | 30, _ => exact gc80
  | 31, _ => exact gc81
  | 32, _ => exact gc82
  | 33, _ => exact gc83
  | 34, _ => exact gc84
  | 35, _ => exact gc85
  | 36, _ => exact gc86
  | 37, _ => exact gc87
  | 38, _ => exact gc88
  | 39, _ => exact gc89
  | 40, _ => exact gc90
  | 41, _ => exact gc91
  | 42, _ => exact gc92
  | 43, _ => exact gc93
  | 44, _ => exact gc94
  | 45, _ => exact gc95
  | 46, _ => exact gc96
  | 47, _ => exact gc97
  | 48, _ => exact gc98
  | 49, _ => exact gc99
  | i + 50, hi => omega
theorem gb_code2 : ∀ w ∈ codeW 2, w ∈ lw_tbl ∧ goodWord w = true := by
  intro w hw
  obtain ⟨i, hi, rfl⟩ := List.mem_map.mp hw
  have hi : i < 50 := List.mem_range.mp hi
  refine ⟨?_, rfl⟩
  match i, hi with
  | 0, _ => exact gc100
  | 1, _ => exact gc101
  | 2, _ => exact gc102
  | 3, _ => exact gc103
  | 4, _ => exact gc104
  | 5, _ => exact gc105
  | 6, _ => exact gc106
  | 7, _ => exact gc107
  | 8, _ => exact gc108
  | 9, _ => exact gc109
  | 10, _ => exact gc110
  | 11, _ => exact gc111
  | 12, _ => exact gc112
  | 13, _ => exact gc113
  | 14, _ => exact gc114
  | 15, _ => exact gc115
  | 16, _ => exact gc116
  | 17, _ => exact gc117
  | 18, _ => exact gc118
  | 19, _ => exact gc119
  | 20, _ => exact gc120
  | 21, _ => exact gc121
  | 22, _ => exact gc122
  | 23, _ => exact gc123
  | 24, _ => exact gc124
  | 25, _ => exact gc125
  | 26, _ => exact gc126
  | 27, _ => exact gc127
  | 28, _ => exact gc128
  | 29, _ => exact gc129
  | 30, _ => exact gc130
  | 31, _ => exact gc131
  | 32, _ => exact gc132
  | 33, _ => exact gc133
  | 34, _ => exact gc134
  | 35, _ => exact gc135
  | 36, _ => exact gc136
  | 37, _ => exact gc137
  | 38, _ => exact gc138
  | 39, _ => exact gc139
  | 40, _ => exact gc140
  | 41, _ => exact gc141
  | 42, _ => exact gc142
  | 43, _ => exact gc143
  | 44, _ => exact gc144
  | 45, _ => exact gc145
  | 46, _ => exact gc146
  | 47, _ => exact gc147
  | 48, _ => exact gc148
  | 49, _ => exact gc149
  | i + 50, hi => omega
theorem gb_code3 : ∀ w ∈ codeW 3, w ∈ lw_tbl ∧ goodWord w = true := by
  intro w hw
  obtain ⟨i, hi, rfl⟩ := List.mem_map.mp hw
  have hi : i < 50 := List.mem_range.mp hi
  refine ⟨?_, rfl⟩
  match i, hi with
  | 0, _ => exact gc150
  | 1, _ => exact gc151
  | 2, _ => exact gc152
  | 3, _ => exact gc153
  | 4, _ => exact gc154
  | 5, _ => exact gc155
  | 6, _ => exact gc156
  | 7, _ => exact gc157
  | 8, _ => exact gc158
  | 9, _ => exact gc159
  | 10, _ => exact gc160
  | 11, _ => exact gc161
  | 12, _ => exact gc162
  | 13, _ => exact gc163
  | 14, _ => exact gc164
  | 15, _ => exact gc165
  | 16, _ => exact gc166
  | 17, _ => exact gc167
  | 18, _ => exact gc168
  | 19, _ => exact gc169
  | 20, _ => exact gc170
  | 21, _ => exact gc171
  | 22, _ => exact gc172
  | 23, _ => exact gc173
  | 24, _ => exact gc174
  | 25, _ => exact gc175
  | 26, _ => exact gc176
  | 27, _ => exact gc177
  | 28, _ => exact gc178
  | 29, _ => exact gc179
  | 30, _ => exact gc180
  | 31, _ => exact gc181
  | 32, _ => exact gc182
  | 33, _ => exact gc183
  | 34, _ => exact gc184
  | 35, _ => exact gc185
  | 36, _ => exact gc186
  | 37, _ => exact gc187
  | 38, _ => exact gc188
  | 39, _ => exact gc189
  | 40, _ => exact gc190
  | 41, _ => exact gc191
  | 42, _ => exact gc192
  | 43, _ => exact gc193
  | 44, _ => exact gc194
  | 45, _ => exact gc195
  | 46, _ => exact gc196
  | 47, _ => exact gc197
  | 48, _ => exact gc198
  | 49, _ => exact gc199
  | i + 50, hi => omega
theorem gb_code4 : ∀ w ∈ codeW 4, w ∈ lw_tbl ∧ goodWord w = true := by
  intro w hw
  obtain ⟨i, hi, rfl⟩ := List.mem_map.mp hw
  have hi : i < 50 := List.mem_range.mp hi
  refine ⟨?_, rfl⟩
  match i, hi with
  | 0, _ => exact gc200
  | 1, _ => exact gc201
  | 2, _ => exact gc202
  | 3, _ => exact gc203
  | 4, _ => exact gc204
  | 5, _ => exact gc205
  | 6, _ => exact gc206
  | 7, _ => exact gc207
  | 8, _ => exact gc208
  | 9, _ => exact gc209
  | 10, _ => exact gc210
  | 11, _ => exact gc211
  | 12, _ => exact gc212
  | 13, _ => exact gc213
  | 14, _ => exact gc214
  | 15, _ => exact gc215
  | 16, _ => exact gc216
  | 17, _ => exact gc217
  | 18, _ => exact gc218
  | 19, _ => exact gc219
  | 20, _ => exact gc220
  | 21, _ => exact gc221
  | 22, _ => exact gc222
  | 23, _ => exact gc223
  | 24, _ => exact gc224
  | 25, _ => exact gc225
  | 26, _ => exact gc226
  | 27, _ => exact gc227
  | 28, _ => exact gc228
  | 29, _ => exact gc229
  | 30, _ => exact gc230
  | 31, _ => exact gc231
  | 32, _ => exact gc232
  | 33, _ => exact gc233
  | 34, _ => exact gc234
  | 35, _ => exact gc235
  | 36, _ => exact gc236
  | 37, _ => exact gc237
  | 38, _ => exact gc238
  | 39, _ => exact gc239
  | 40, _ => exact gc240
  | 41, _ => exact gc241
  | 42, _ => exact gc242
  | 43, _ => exact gc243
  | 44, _ => exact gc244
  | 45, _ => exact gc245
  | 46, _ => exact gc246
  | 47, _ => exact gc247
  | 48, _ => exact gc248
  | 49, _ => exact gc249
  | i + 50, hi => omega
theorem gb_code5 : ∀ w ∈ codeW 5, w ∈ lw_tbl ∧ goodWord w = true := by
  intro w hw
  obtain ⟨i, hi, rfl⟩ := List.mem_map.mp hw
  have hi : i < 44 := List.mem_range.mp hi
  refine ⟨?_, rfl⟩
  match i, hi with
  | 0, _ => exact gc250
  | 1, _ => exact gc251
  | 2, _ => exact gc252
  | 3, _ => exact gc253
  | 4, _ => exact gc254
  | 5, _ => exact gc255
  | 6, _ => exact gc256
  | 7, _ => exact gc257
  | 8, _ => exact gc258
  | 9, _ => exact gc259
  | 10, _ => exact gc260
  | 11, _ => exact gc261
  | 12, _ => exact gc262
  | 13, _ => exact gc263
  | 14, _ => exact gc264
  | 15, _ => exact gc265
  | 16, _ => exact gc266
  | 17, _ => exact gc267
  | 18, _ => exact gc268
  | 19, _ => exact gc269
  | 20, _ => exact gc270
  | 21, _ => exact gc271
  | 22, _ => exact gc272
  | 23, _ => exact gc273
  | 24, _ => exact gc274
  | 25, _ => exact gc275
  | 26, _ => exact gc276
  | 27, _ => exact gc277
  | 28, _ => exact gc278
  | 29, _ => exact gc279
  | 30, _ => exact gc280
  | 31, _ => exact gc281
  | 32, _ => exact gc282
  | 33, _ => exact gc283
  | 34, _ => exact gc284
  | 35, _ => exact gc285
  | 36, _ => exact gc286
  | 37, _ => exact gc287
  | 38, _ => exact gc288
  | 39, _ => exact gc289
  | 40, _ => exact gc290
  | 41, _ => exact gc291
  | 42, _ => exact gc292
  | 43, _ => exact gc293
  | i + 44, hi => omega
set_option maxRecDepth 100000 in
theorem gb_call0 : gbZ (GBc 0) [(5, 213), (1, 4), (3, 128), (5, 214), (1, 9), (5, 216), (0, 36), (5, 219), (1, 11), (5, 220), (5, 221), (5, 223), (1, 9), (5, 225), (0, 37), (5, 218), (1, 2), (2, 84), (2, 85), (5, 228), (1, 9), (5, 230), (0, 38)] = true := by decide +kernel
set_option maxRecDepth 100000 in
theorem gb_call1 : gbZ (GBc 1) [(1, 48), (1, 4), (1, 49), (2, 135), (1, 3), (2, 136), (2, 127), (1, 3), (2, 129), (0, 1), (2, 149), (1, 3), (2, 151), (0, 3), (2, 131), (1, 3), (2, 132), (2, 133), (2, 138), (1, 23), (2, 139), (2, 141), (1, 3), (2, 143), (0, 2), (2, 153), (1, 3), (2, 155), (0, 4), (2, 145), (1, 3), (2, 146), (2, 147)] = true := by decide +kernel
set_option maxRecDepth 100000 in
theorem gb_call4 : gbZ (GBc 4) [(5, 1), (1, 2), (2, 116), (2, 117), (5, 2), (1, 2), (2, 84), (2, 85), (5, 3), (1, 7), (5, 5), (0, 29), (5, 24), (1, 7), (5, 9), (5, 10)] = true := by decide +kernel
set_option maxRecDepth 100000 in
theorem gb_call5 : gbZ (GBc 5) [(3, 19), (1, 6), (3, 20), (3, 21), (3, 119), (1, 2), (3, 120), (3, 121), (3, 130), (1, 5), (3, 132), (0, 13), (3, 134), (1, 5), (3, 136), (0, 14), (3, 168), (1, 5), (3, 170), (0, 17), (3, 185), (1, 5), (3, 187), (0, 20), (3, 142), (1, 5), (3, 144), (0, 15), (3, 138), (1, 6), (3, 139), (3, 140), (3, 146), (1, 6), (3, 147), (3, 148), (3, 150), (1, 6), (3, 151), (3, 152), (3, 154), (1, 23), (3, 155), (3, 159), (1, 2), (2, 68), (2, 69), (3, 160), (1, 2), (3, 161), (3, 162), (3, 164), (1, 5), (3, 166), (0, 16), (3, 172), (1, 5), (3, 174), (0, 18), (3, 176), (1, 2), (2, 167), (2, 168), (3, 177), (1, 2), (3, 178), (3, 179), (3, 181), (1, 5), (3, 183), (0, 19), (3, 189), (1, 5), (3, 191), (0, 21), (3, 193), (1, 2), (3, 194), (3, 195)] = true := by decide +kernel
set_option maxRecDepth 100000 in
theorem gb_call6 : gbZ (GBc 6) [(5, 69), (1, 4), (1, 49), (5, 71), (1, 2), (2, 88), (2, 89), (5, 72), (1, 2), (2, 116), (2, 117), (5, 73), (1, 8), (5, 75), (0, 31), (5, 100), (1, 8), (5, 102), (0, 33), (5, 89), (1, 8), (5, 90), (5, 152), (1, 2), (2, 84), (2, 85), (5, 81), (1, 8), (5, 82), (5, 153), (1, 23), (2, 95), (5, 77), (1, 8), (5, 79), (0, 32)] = true := by decide +kernel
set_option maxRecDepth 100000 in
theorem gb_call7 : gbZ (GBc 7) [(3, 32), (1, 6), (3, 34), (0, 6), (3, 40), (1, 6), (3, 42), (0, 8), (3, 36), (1, 6), (3, 38), (0, 7), (3, 44), (1, 6), (3, 45), (3, 47), (1, 6), (3, 49), (0, 9), (3, 51), (1, 6), (3, 53), (0, 10), (3, 112), (1, 6), (3, 113), (3, 115), (1, 6), (3, 117), (0, 12), (3, 56), (1, 6), (3, 58), (0, 11), (3, 60), (1, 19), (3, 61), (3, 62), (3, 70), (1, 19), (3, 71), (3, 72)] = true := by decide +kernel
set_option maxRecDepth 100000 in
theorem gb_call8 : gbZ (GBc 8) [(3, 123), (1, 3), (3, 124), (3, 125), (3, 127), (1, 4), (3, 128), (3, 201), (1, 3), (3, 202), (3, 203), (2, 115), (1, 2), (2, 116), (2, 117), (2, 166), (1, 2), (2, 167), (2, 168), (2, 111), (1, 2), (2, 112), (2, 113), (4, 22), (1, 25), (2, 102), (2, 83), (1, 2), (2, 84), (2, 85), (2, 94), (1, 23), (2, 95), (4, 208), (1, 2), (4, 39), (4, 40), (4, 90), (1, 2), (3, 178), (3, 179), (2, 91), (1, 2), (2, 92), (2, 87), (1, 2), (2, 88), (2, 89), (4, 117), (1, 2), (4, 24), (4, 25), (4, 203), (1, 2), (2, 68), (2, 69), (4, 192), (1, 11), (4, 193), (4, 194), (4, 196), (1, 2), (4, 197), (4, 198)] = true := by decide +kernel
set_option maxRecDepth 100000 in
theorem gb_call9 : gbZ (GBc 9) [(6, 108), (1, 4), (1, 49), (6, 137), (1, 11), (6, 139), (0, 41), (5, 205), (1, 11), (4, 193), (4, 194)] = true := by decide +kernel
set_option maxRecDepth 100000 in
theorem gb_call10 : gbZ (GBc 10) [(2, 55), (1, 1), (2, 57), (0, 0), (3, 15), (1, 5), (3, 16), (3, 17), (3, 197), (1, 2), (3, 198), (3, 199), (3, 231), (1, 2), (2, 84), (2, 85), (3, 239), (1, 1), (4, 1), (0, 22), (2, 67), (1, 2), (2, 68), (2, 69), (4, 4), (1, 2), (2, 116), (2, 117), (4, 12), (1, 1), (4, 14), (0, 23), (4, 17), (1, 2), (2, 167), (2, 168), (4, 18), (1, 2), (4, 19), (4, 20), (4, 23), (1, 2), (4, 24), (4, 25), (4, 27), (1, 2), (4, 28), (4, 29), (4, 38), (1, 2), (4, 39), (4, 40), (4, 49), (1, 1), (4, 51), (0, 24), (2, 79), (1, 2), (2, 80), (2, 81), (4, 61), (1, 1), (4, 63), (0, 25), (4, 66), (1, 1), (4, 68), (0, 26), (4, 86), (1, 2), (4, 87), (4, 88), (4, 98), (1, 2), (4, 99), (4, 100), (4, 102), (1, 2), (4, 103), (4, 104), (4, 113), (1, 2), (4, 114), (4, 115), (4, 144), (1, 2), (3, 178), (3, 179), (2, 71), (1, 2), (2, 72), (2, 73), (4, 154), (1, 23), (4, 155), (4, 166), (1, 1), (4, 168), (0, 27), (4, 182), (1, 1), (4, 184), (0, 28), (4, 188), (1, 2), (4, 189), (4, 190), (4, 204), (1, 2), (4, 205), (4, 206), (4, 209), (1, 11), (4, 193), (4, 194), (4, 210), (1, 2), (4, 197), (4, 198), (4, 225), (1, 2), (4, 226), (4, 227), (4, 236), (1, 7), (4, 237), (4, 238), (5, 8), (1, 7), (5, 9), (5, 10), (5, 20), (1, 7), (5, 21), (5, 22), (5, 35), (1, 7), (5, 36), (5, 37), (5, 49), (1, 7), (5, 50), (5, 51), (5, 60), (1, 1), (5, 62), (0, 30), (5, 65), (1, 8), (5, 66), (5, 67), (5, 85), (1, 8), (5, 86), (5, 87), (5, 92), (1, 8), (5, 93), (5, 94), (5, 96), (1, 8), (5, 97), (5, 98), (5, 111), (1, 1), (5, 113), (0, 34), (2, 101), (1, 25), (2, 102), (4, 75), (1, 2), (4, 76), (4, 77), (5, 123), (1, 7), (5, 124), (5, 125), (5, 134), (1, 1), (5, 136), (0, 35), (5, 148), (1, 8), (5, 149), (5, 150), (5, 164), (1, 2), (5, 165), (5, 166), (5, 176), (1, 23), (2, 139), (2, 107), (1, 2), (2, 108), (2, 109), (5, 201), (1, 11), (5, 202), (5, 203), (5, 209), (1, 9), (5, 210), (5, 211), (6, 1), (1, 1), (6, 3), (0, 39), (6, 7), (1, 23), (6, 8), (6, 19), (1, 23), (6, 20), (6, 45), (1, 1), (6, 47), (0, 40), (6, 50), (1, 23), (6, 51), (6, 84), (1, 3), (2, 132), (2, 133), (6, 86), (1, 3), (2, 146), (2, 147), (2, 123), (1, 3), (2, 124), (2, 125), (6, 102), (1, 11), (6, 103), (6, 104), (6, 133), (1, 11), (6, 134), (6, 135), (6, 156), (1, 1), (6, 158), (0, 42), (2, 162), (1, 2), (2, 163), (2, 164), (2, 170), (1, 2), (2, 171), (2, 172), (2, 174), (1, 3), (2, 175), (2, 176), (4, 70), (1, 2), (4, 71), (4, 72), (4, 170), (1, 10), (4, 171), (4, 172), (5, 138), (1, 23), (3, 155)] = true := by decide +kernel
set_option maxRecDepth 100000 in
theorem gb_call11 : gbZ (GBc 11) [(6, 176), (1, 12), (6, 177), (6, 179), (1, 12), (6, 180), (7, 53), (1, 12), (7, 54), (7, 56), (1, 12), (7, 58), (0, 45), (7, 60), (1, 12), (7, 61), (7, 80), (1, 19), (3, 61), (3, 62), (7, 81), (1, 19), (3, 71), (3, 72), (7, 76), (1, 12), (7, 78), (0, 49), (7, 49), (1, 12), (7, 51), (0, 44), (7, 72), (1, 12), (7, 74), (0, 48), (7, 82), (1, 12), (7, 84), (0, 50), (7, 90), (1, 12), (7, 92), (0, 52), (7, 42), (1, 12), (7, 43), (7, 96), (1, 12), (7, 97), (7, 99), (1, 12), (7, 100), (7, 68), (1, 12), (7, 70), (0, 47), (7, 86), (1, 12), (7, 88), (0, 51), (7, 115), (1, 12), (7, 117), (0, 56), (7, 126), (1, 12), (7, 128), (0, 58), (7, 111), (1, 12), (7, 113), (0, 55), (7, 122), (1, 12), (7, 124), (0, 57), (7, 102), (1, 12), (7, 104), (0, 53), (7, 45), (1, 12), (7, 47), (0, 43), (7, 63), (1, 12), (7, 65), (0, 46), (7, 106), (1, 12), (7, 108), (0, 54), (7, 155), (1, 12), (7, 157), (0, 62), (7, 139), (1, 12), (7, 141), (0, 59), (7, 159), (1, 12), (7, 161), (0, 63), (7, 143), (1, 12), (7, 145), (0, 60), (7, 151), (1, 12), (7, 153), (0, 61), (7, 170), (1, 12), (7, 172), (0, 64), (7, 178), (1, 12), (7, 180), (0, 65), (7, 198), (1, 12), (7, 200), (0, 68), (7, 202), (1, 12), (7, 204), (0, 69), (7, 206), (1, 12), (7, 208), (0, 70), (7, 190), (1, 12), (7, 192), (0, 66), (7, 194), (1, 12), (7, 196), (0, 67), (7, 218), (1, 12), (7, 220), (0, 71), (7, 226), (1, 12), (7, 228), (0, 72), (8, 8), (1, 12), (8, 10), (0, 73), (8, 21), (1, 12), (8, 22), (8, 28), (1, 12), (8, 30), (0, 76), (8, 17), (1, 12), (8, 19), (0, 74), (8, 24), (1, 12), (8, 26), (0, 75), (8, 35), (1, 12), (8, 37), (0, 77), (8, 47), (1, 12), (8, 49), (0, 78), (8, 77), (1, 12), (8, 78), (8, 73), (1, 12), (8, 75), (0, 79), (8, 84), (1, 12), (8, 86), (0, 81), (8, 88), (1, 12), (8, 90), (0, 82), (8, 80), (1, 12), (8, 82), (0, 80), (8, 104), (1, 12), (8, 106), (0, 83), (8, 114), (1, 12), (8, 116), (0, 84), (8, 127), (1, 12), (8, 128), (8, 130), (1, 12), (8, 132), (0, 85), (8, 146), (1, 12), (8, 148), (0, 86), (8, 163), (1, 12), (8, 165), (0, 88), (8, 159), (1, 12), (8, 161), (0, 87), (8, 171), (1, 12), (8, 172), (8, 174), (1, 12), (8, 175), (8, 187), (1, 12), (8, 188), (8, 207), (1, 12), (8, 208), (8, 219), (1, 12), (8, 221), (0, 89), (8, 235), (1, 12), (8, 237), (0, 91), (8, 231), (1, 12), (8, 233), (0, 90), (9, 8), (1, 12), (9, 10), (0, 92)] = true := by decide +kernel
set_option maxRecDepth 100000 in
theorem gb_call12 : gbZ (GBc 12) [(2, 182), (1, 1), (2, 183), (2, 184), (3, 211), (1, 1), (3, 212), (3, 213), (3, 235), (1, 1), (3, 236), (3, 237), (4, 8), (1, 1), (4, 9), (4, 10), (4, 34), (1, 1), (4, 35), (4, 36), (4, 45), (1, 1), (4, 46), (4, 47), (4, 57), (1, 1), (4, 58), (4, 59), (4, 82), (1, 1), (4, 83), (4, 84), (4, 94), (1, 1), (4, 95), (4, 96), (4, 109), (1, 1), (4, 110), (4, 111), (4, 123), (1, 1), (4, 124), (4, 125), (4, 148), (1, 1), (4, 149), (4, 150), (4, 160), (1, 1), (4, 161), (4, 162), (4, 178), (1, 1), (4, 179), (4, 180), (4, 214), (1, 1), (4, 215), (4, 216), (4, 221), (1, 1), (4, 222), (4, 223), (4, 232), (1, 1), (4, 233), (4, 234), (5, 16), (1, 1), (5, 17), (5, 18), (5, 31), (1, 1), (5, 32), (5, 33), (5, 45), (1, 1), (5, 46), (5, 47), (5, 56), (1, 1), (5, 57), (5, 58), (5, 107), (1, 1), (5, 108), (5, 109), (5, 119), (1, 1), (5, 120), (5, 121), (5, 130), (1, 1), (5, 131), (5, 132), (5, 143), (1, 1), (5, 144), (5, 145), (5, 160), (1, 1), (5, 161), (5, 162), (5, 172), (1, 1), (5, 173), (5, 174), (5, 180), (1, 1), (5, 181), (5, 182), (5, 188), (1, 1), (5, 189), (5, 190), (5, 197), (1, 1), (5, 198), (5, 199), (5, 237), (1, 1), (5, 238), (5, 239), (6, 13), (1, 1), (6, 14), (6, 15), (6, 25), (1, 1), (6, 26), (6, 27), (6, 34), (1, 1), (6, 35), (6, 36), (6, 41), (1, 1), (6, 42), (6, 43), (6, 56), (1, 1), (6, 57), (6, 58), (6, 63), (1, 1), (6, 64), (6, 65), (6, 70), (1, 1), (6, 71), (6, 72), (6, 78), (1, 1), (6, 79), (6, 80), (6, 90), (1, 1), (6, 91), (6, 92), (6, 97), (1, 1), (6, 98), (6, 99), (6, 113), (1, 1), (6, 114), (6, 115), (6, 144), (1, 1), (6, 145), (6, 146), (6, 152), (1, 1), (6, 153), (6, 154), (6, 164), (1, 1), (6, 165), (6, 166), (2, 51), (1, 1), (2, 52), (2, 53), (7, 34), (1, 12), (7, 35), (7, 36), (7, 38), (1, 12), (7, 39), (7, 40), (7, 30), (1, 12), (7, 31), (7, 32), (2, 59), (1, 1), (2, 60), (2, 61), (7, 131), (1, 12), (7, 132), (7, 133), (7, 135), (1, 12), (7, 136), (7, 137), (7, 147), (1, 12), (7, 148), (7, 149), (7, 163), (1, 12), (7, 164), (7, 165), (7, 174), (1, 12), (7, 175), (7, 176), (7, 182), (1, 12), (7, 183), (7, 184), (7, 186), (1, 12), (7, 187), (7, 188), (7, 210), (1, 12), (7, 211), (7, 212), (7, 214), (1, 12), (7, 215), (7, 216), (7, 222), (1, 12), (7, 223), (7, 224), (7, 230), (1, 12), (7, 231), (7, 232), (2, 63), (1, 1), (2, 64), (2, 65), (7, 234), (1, 12), (7, 235), (7, 236), (7, 238), (1, 12), (7, 239), (8, 0), (8, 3), (1, 12), (8, 4), (8, 5), (8, 13), (1, 12), (8, 14), (8, 15), (8, 39), (1, 12), (8, 40), (8, 41), (8, 43), (1, 12), (8, 44), (8, 45), (8, 51), (1, 12), (8, 52), (8, 53), (8, 56), (1, 12), (8, 57), (8, 58), (8, 61), (1, 12), (8, 62), (8, 63), (8, 65), (1, 12), (8, 66), (8, 67), (8, 69), (1, 12), (8, 70), (8, 71), (8, 123), (1, 12), (8, 124), (8, 125), (8, 92), (1, 12), (8, 93), (8, 94), (8, 96), (1, 12), (8, 97), (8, 98), (2, 75), (1, 1), (2, 76), (2, 77), (8, 100), (1, 12), (8, 101), (8, 102), (8, 108), (1, 12), (8, 109), (8, 110), (8, 118), (1, 12), (8, 119), (8, 120), (8, 134), (1, 12), (8, 135), (8, 136), (8, 138), (1, 12), (8, 139), (8, 140), (2, 97), (1, 1), (2, 98), (2, 99), (8, 142), (1, 12), (8, 143), (8, 144), (8, 150), (1, 12), (8, 151), (8, 152), (8, 154), (1, 12), (8, 155), (8, 156), (8, 167), (1, 12), (8, 168), (8, 169), (8, 177), (1, 12), (8, 178), (8, 179), (8, 182), (1, 12), (8, 183), (8, 184), (8, 190), (1, 12), (8, 191), (8, 192), (8, 194), (1, 12), (8, 195), (8, 196), (8, 199), (1, 12), (8, 200), (8, 201), (8, 203), (1, 12), (8, 204), (8, 205), (8, 210), (1, 12), (8, 211), (8, 212), (8, 215), (1, 12), (8, 216), (8, 217), (8, 223), (1, 12), (8, 224), (8, 225), (2, 119), (1, 1), (2, 120), (2, 121), (8, 227), (1, 12), (8, 228), (8, 229), (8, 239), (1, 12), (9, 0), (9, 1), (9, 4), (1, 12), (9, 5), (9, 6), (9, 12), (1, 12), (9, 13), (9, 14), (9, 16), (1, 12), (9, 17), (9, 18), (9, 20), (1, 12), (9, 21), (9, 22), (2, 158), (1, 1), (2, 159), (2, 160), (9, 24), (1, 12), (9, 25), (9, 26)] = true := by decide +kernel
set_option maxRecDepth 100000 in
theorem gb_call13 : gbZ (GBc 13) [(3, 64), (1, 19), (3, 65), (3, 66), (3, 74), (1, 19), (3, 75), (3, 76), (3, 78), (1, 20), (3, 79), (3, 86), (1, 21), (3, 87)] = true := by decide +kernel
set_option maxRecDepth 100000 in
theorem gb_call14 : gbZ (GBc 14) [(3, 81), (1, 19), (3, 82)] = true := by decide +kernel
set_option maxRecDepth 100000 in
theorem gb_fld : (List.range 19).all (fun o => (GBf o).all gbT) = true := by decide +kernel
set_option maxRecDepth 100000 in
theorem gb_lay : GBl.all gbT = true := by decide +kernel
set_option maxRecDepth 100000 in
theorem gb_con : (List.range 19).all (fun o => (GBk o).all gbT) = true := by decide +kernel
set_option maxRecDepth 100000 in
theorem gb_exc : (List.range 5).all (fun E => (GBx E).all gbT) = true := by decide +kernel
set_option maxRecDepth 100000 in
theorem gb_cpy : (List.range 19).all (fun o => (GBy o).all gbT) = true := by decide +kernel
set_option maxRecDepth 100000 in
theorem gb_mx : (List.range 19).all (fun o => (GBm o).all gbT) = true := by decide +kernel
set_option maxRecDepth 100000 in
theorem gb_mn : GBn.all gbT = true := by decide +kernel
set_option maxRecDepth 100000 in
theorem gb_spc : GBs.all gbT = true := by decide +kernel
def GB : List Cond := (List.range 6).flatMap codeW ++ ((List.range 19).flatMap GBc ++ ((List.range 19).flatMap GBf ++ (GBl ++ ((List.range 19).flatMap GBk ++ ((List.range 5).flatMap GBx ++ ((List.range 19).flatMap GBy ++ ((List.range 19).flatMap GBm ++ (GBn ++ GBs))))))))
theorem gb_ok : ∀ w ∈ GB, w ∈ lw_tbl ∧ goodWord w = true := by
  have hT : ∀ w, gbT w = true → w ∈ lw_tbl ∧ goodWord w = true := fun w h => by
    unfold gbT at h
    simp only [Bool.and_eq_true, decide_eq_true_eq] at h
    exact h
  have hA : ∀ L : List Cond, L.all gbT = true → ∀ w ∈ L, w ∈ lw_tbl ∧ goodWord w = true := fun L h w hw => hT w (List.all_eq_true.mp h w hw)
  have hF : ∀ (n : Nat) (f : Nat → List Cond), (List.range n).all (fun o => (f o).all gbT) = true → ∀ w ∈ (List.range n).flatMap f, w ∈ lw_tbl ∧ goodWord w = true := fun n f h w hw => by
    obtain ⟨o, ho, hw⟩ := List.mem_flatMap.mp hw
    exact hA _ (List.all_eq_true.mp h o ho) w hw
  have hC : ∀ k, k < 6 → ∀ w ∈ codeW k, w ∈ lw_tbl ∧ goodWord w = true := fun k hk => by
    match k, hk with
    | 0, _ => exact gb_code0
    | 1, _ => exact gb_code1
    | 2, _ => exact gb_code2
    | 3, _ => exact gb_code3
    | 4, _ => exact gb_code4
    | 5, _ => exact gb_code5
    | k + 6, hk => omega
  have hL : ∀ o, o < 19 → ∀ w ∈ GBc o, w ∈ lw_tbl ∧ goodWord w = true := fun o ho => by
    match o, ho with
    | 0, _ => exact gbZ_ok gb_call0
    | 1, _ => exact gbZ_ok gb_call1
    | 2, _ => exact fun w h => by cases h
    | 3, _ => exact fun w h => by cases h
    | 4, _ => exact gbZ_ok gb_call4
    | 5, _ => exact gbZ_ok gb_call5
    | 6, _ => exact gbZ_ok gb_call6
    | 7, _ => exact gbZ_ok gb_call7
    | 8, _ => exact gbZ_ok gb_call8
    | 9, _ => exact gbZ_ok gb_call9
    | 10, _ => exact gbZ_ok gb_call10
    | 11, _ => exact gbZ_ok gb_call11
    | 12, _ => exact gbZ_ok gb_call12
    | 13, _ => exact gbZ_ok gb_call13
    | 14, _ => exact gbZ_ok gb_call14
    | 15, _ => exact fun w h => by cases h
    | 16, _ => exact fun w h => by cases h
    | 17, _ => exact fun w h => by cases h
    | 18, _ => exact fun w h => by cases h
    | o + 19, ho => omega
  intro w hw
  unfold GB at hw
  rcases List.mem_append.mp hw with h | h
  · obtain ⟨o, ho, h⟩ := List.mem_flatMap.mp h
    exact hC o (List.mem_range.mp ho) w h
  rcases List.mem_append.mp h with h | h
  · obtain ⟨o, ho, h⟩ := List.mem_flatMap.mp h
    exact hL o (List.mem_range.mp ho) w h
  rcases List.mem_append.mp h with h | h
  · exact hF _ _ gb_fld w h
  rcases List.mem_append.mp h with h | h
  · exact hA _ gb_lay w h
  rcases List.mem_append.mp h with h | h
  · exact hF _ _ gb_con w h
  rcases List.mem_append.mp h with h | h
  · exact hF _ _ gb_exc w h
  rcases List.mem_append.mp h with h | h
  · exact hF _ _ gb_cpy w h
  rcases List.mem_append.mp h with h | h
  · exact hF _ _ gb_mx w h
  rcases List.mem_append.mp h with h | h
  · exact hA _ gb_mn w h
  · exact hA _ gb_spc w h
theorem in_code {y : Nat} (h : y < NM) : Cond.code (mY y) (mC y) (mL y) (mR y) ∈ GB := by
  refine List.mem_append_left _ (List.mem_flatMap.mpr ⟨y / 50, List.mem_range.mpr (by unfold NM at h; omega), List.mem_map.mpr ⟨y % 50, List.mem_range.mpr (by unfold NM at *; omega), ?_⟩⟩)
  rw [Nat.div_add_mod]
theorem in_call {o : Nat} {q : Nat × (Nat × Bool × Nat)} (ho : o < 19) (h : q ∈ CLt o) {w : Cond} (hw : w ∈ callW o q) : w ∈ GB := List.mem_append_right _ (List.mem_append_left _ (List.mem_flatMap.mpr ⟨o, List.mem_range.mpr ho, List.mem_flatMap.mpr ⟨q, h, hw⟩⟩))
theorem in_fld {o : Nat} {q : Nat × (Nat × Nat)} (ho : o < 19) (h : q ∈ FLt o) : fldW o q ∈ GB := List.mem_append_right _ (List.mem_append_right _ (List.mem_append_left _ (List.mem_flatMap.mpr ⟨o, List.mem_range.mpr ho, List.mem_map.mpr ⟨q, h, rfl⟩⟩)))
theorem in_lay {w : Cond} (h : w ∈ GBl) : w ∈ GB := List.mem_append_right _ (List.mem_append_right _ (List.mem_append_right _ (List.mem_append_left _ h)))
theorem in_con {o : Nat} (ho : o < 19) {w : Cond} (h : w ∈ GBk o) : w ∈ GB := List.mem_append_right _ (List.mem_append_right _ (List.mem_append_right _ (List.mem_append_right _ (List.mem_append_left _ (List.mem_flatMap.mpr ⟨o, List.mem_range.mpr ho, h⟩)))))
theorem in_exc {E : Nat} (hE : E < 5) {w : Cond} (h : w ∈ GBx E) : w ∈ GB := List.mem_append_right _ (List.mem_append_right _ (List.mem_append_right _ (List.mem_append_right _ (List.mem_append_right _ (List.mem_append_left _ (List.mem_flatMap.mpr ⟨E, List.mem_range.mpr hE, h⟩))))))
theorem in_cpy {o : Nat} (ho : o < 19) {w : Cond} (h : w ∈ GBy o) : w ∈ GB := List.mem_append_right _ (List.mem_append_right _ (List.mem_append_right _ (List.mem_append_right _ (List.mem_append_right _ (List.mem_append_right _ (List.mem_append_left _ (List.mem_flatMap.mpr ⟨o, List.mem_range.mpr ho, h⟩)))))))
theorem in_mx {o : Nat} (ho : o < 19) {w : Cond} (h : w ∈ GBm o) : w ∈ GB := List.mem_append_right _ (List.mem_append_right _ (List.mem_append_right _ (List.mem_append_right _ (List.mem_append_right _ (List.mem_append_right _ (List.mem_append_right _ (List.mem_append_left _ (List.mem_flatMap.mpr ⟨o, List.mem_range.mpr ho, h⟩))))))))
theorem in_mn {w : Cond} (h : w ∈ GBn) : w ∈ GB := List.mem_append_right _ (List.mem_append_right _ (List.mem_append_right _ (List.mem_append_right _ (List.mem_append_right _ (List.mem_append_right _ (List.mem_append_right _ (List.mem_append_right _ (List.mem_append_left _ h))))))))
theorem in_spc {w : Cond} (h : w ∈ GBs) : w ∈ GB := List.mem_append_right _ (List.mem_append_right _ (List.mem_append_right _ (List.mem_append_right _ (List.mem_append_right _ (List.mem_append_right _ (List.mem_append_right _ (List.mem_append_right _ (List.mem_append_right _ h))))))))
/-! what the tables say, by program -/
theorem own_lt {o : Nat} (h : ∃ k v, look (FLt o) k = some v) : o < 19 := by
  obtain ⟨k, v, h⟩ := h
  by_cases ho : o < 19
  · exact ho
  · exact absurd h (by
      have : FLt o = [] := by unfold FLt; split <;> first | rfl | omega
      rw [this]; intro h; cases h)
theorem own_ltC {o : Nat} (h : ∃ k v, look (CLt o) k = some v) : o < 19 := by
  obtain ⟨k, v, h⟩ := h
  by_cases ho : o < 19
  · exact ho
  · exact absurd h (by
      have : CLt o = [] := by unfold CLt; split <;> first | rfl | omega
      rw [this]; intro h; cases h)
theorem own_ltI {o : Nat} (h : ∃ k v, look (KIt o) k = some v) : o < 19 := by
  obtain ⟨k, v, h⟩ := h
  by_cases ho : o < 19
  · exact ho
  · exact absurd h (by
      have : KIt o = [] := by unfold KIt; split <;> first | rfl | omega
      rw [this]; intro h; cases h)
theorem own_ltJ {o : Nat} (h : ∃ k v, look (KJt o) k = some v) : o < 19 := by
  obtain ⟨k, v, h⟩ := h
  by_cases ho : o < 19
  · exact ho
  · exact absurd h (by
      have : KJt o = [] := by unfold KJt; split <;> first | rfl | omega
      rw [this]; intro h; cases h)
theorem own_ltM {o : Nat} (h : ∃ k v, look (MXt o) k = some v) : o < 19 := by
  obtain ⟨k, v, h⟩ := h
  by_cases ho : o < 19
  · exact ho
  · exact absurd h (by
      have : MXt o = [] := by unfold MXt; split <;> first | rfl | omega
      rw [this]; intro h; cases h)
theorem own_ltP {o : Nat} (h : ∃ k v, look (CPt o) k = some v) : o < 19 := by
  obtain ⟨k, v, h⟩ := h
  by_cases ho : o < 19
  · exact ho
  · exact absurd h (by
      have : CPt o = [] := by unfold CPt; split <;> first | rfl | omega
      rw [this]; intro h; cases h)
def fldT (q : Nat × (Nat × Nat)) : Bool := decide (q.2.1 < 11 ∧ q.2.2 < (cTb q.2.1).2.2)
theorem fld_tb : (List.range 19).all (fun o => (FLt o).all fldT) = true := by decide +kernel
theorem fld_ok {o k ci f : Nat} (h : look (FLt o) k = some (ci, f)) : ci < 11 ∧ f < (cTb ci).2.2 ∧ (k, ci, f) ∈ FLt o ∧ o < 19 := by
  have ho := own_lt ⟨_, _, h⟩
  have hm := look_mem h
  have h1 := List.all_eq_true.mp (List.all_eq_true.mp fld_tb o (List.mem_range.mpr ho)) _ hm
  unfold fldT at h1
  simp only [decide_eq_true_eq] at h1
  exact ⟨h1.1, h1.2, hm, ho⟩
def callT (q : Nat × (Nat × Bool × Nat)) : Bool := decide (q.2.1 < NM) && decide ((mY q.2.1).cls ≠ "java/lang/invoke/MethodHandle") && decide ((mY q.2.1).cls ≠ "java/lang/invoke/VarHandle") && decide ((parseMethodDescriptor (mY q.2.1).desc).map (fun d => d.parameters.length) = some q.2.2.2)
theorem call_tb : (List.range 19).all (fun o => (CLt o).all callT) = true := by decide +kernel
theorem call_ok {o k y na : Nat} {b : Bool} (h : look (CLt o) k = some (y, b, na)) : y < NM ∧ ((mY y).cls ≠ "java/lang/invoke/MethodHandle" ∧ (mY y).cls ≠ "java/lang/invoke/VarHandle") ∧ (parseMethodDescriptor (mY y).desc).map (fun d => d.parameters.length) = some na ∧ (k, y, b, na) ∈ CLt o ∧ o < 19 := by
  have ho := own_ltC ⟨_, _, h⟩
  have hm := look_mem h
  have h1 := List.all_eq_true.mp (List.all_eq_true.mp call_tb o (List.mem_range.mpr ho)) _ hm
  unfold callT at h1
  simp only [Bool.and_eq_true, decide_eq_true_eq] at h1
  exact ⟨h1.1.1.1, ⟨h1.1.1.2, h1.1.2⟩, h1.2, hm, ho⟩
def conT (z : Int) : Bool := decide (-2147483648 ≤ z) && decide (z < 2147483648)
theorem conI_tb : (List.range 19).all (fun o => (KIt o).all (fun q => conT q.2)) = true := by decide +kernel
theorem conJ_tb : (List.range 19).all (fun o => (KJt o).all (fun q => decide (-9223372036854775808 ≤ q.2) && decide (q.2 < 9223372036854775808))) = true := by decide +kernel
theorem conI_ok {o k : Nat} {z : Int} (h : look (KIt o) k = some z) : in32 z ∧ Cond.constant (ownN o) k (Int32.ofInt z) ∈ GB := by
  have ho := own_ltI ⟨_, _, h⟩
  have hm := look_mem h
  have h1 := List.all_eq_true.mp (List.all_eq_true.mp conI_tb o (List.mem_range.mpr ho)) _ hm
  unfold conT at h1
  simp only [Bool.and_eq_true, decide_eq_true_eq] at h1
  exact ⟨h1, in_con ho (List.mem_append_left _ (List.mem_map.mpr ⟨_, hm, rfl⟩))⟩
theorem conJ_ok {o k : Nat} {z : Int} (h : look (KJt o) k = some z) : in64 z ∧ Cond.constantLong (ownN o) k (Int64.ofInt z) ∈ GB := by
  have ho := own_ltJ ⟨_, _, h⟩
  have hm := look_mem h
  have h1 := List.all_eq_true.mp (List.all_eq_true.mp conJ_tb o (List.mem_range.mpr ho)) _ hm
  simp only [Bool.and_eq_true, decide_eq_true_eq] at h1
  exact ⟨h1, in_con ho (List.mem_append_right _ (List.mem_map.mpr ⟨_, hm, rfl⟩))⟩
def strT (o : Nat) (q : Nat × Nat) : Bool := decide (q.2 < STl.length) && decide ((STl.getD q.2 (0, 0, "")).1 = o) && decide ((STl.getD q.2 (0, 0, "")).2.1 = q.1)
theorem str_tb : (List.range 19).all (fun o => (STt o).all (strT o)) = true := by decide +kernel
theorem str_ok {o k j : Nat} (h : look (STt o) k = some j) : ∃ t, STl[j]? = some (o, k, t) := by
  have ho : o < 19 := by
    by_cases ho : o < 19
    · exact ho
    · exact absurd h (by
        have : STt o = [] := by unfold STt; split <;> first | rfl | omega
        rw [this]; intro h; cases h)
  have hm := look_mem h
  have h1 := List.all_eq_true.mp (List.all_eq_true.mp str_tb o (List.mem_range.mpr ho)) _ hm
  unfold strT at h1
  simp only [Bool.and_eq_true, decide_eq_true_eq] at h1
  obtain ⟨⟨h1, h2⟩, h3⟩ := h1
  refine ⟨(STl.getD j (0, 0, "")).2.2, ?_⟩
  rw [List.getElem?_eq_getElem h1]
  rw [List.getD_eq_getElem?_getD, List.getElem?_eq_getElem h1] at h2 h3 ⊢
  simp only [Option.getD_some] at h2 h3 ⊢
  rw [← h2, ← h3]
theorem cl_get {ci : Nat} (h : ci < 11) : vwCl[ci]? = some ((cTb ci).1, (cTb ci).2.1, (cTb ci).2.2) := by
  unfold cTb
  rw [List.getD_eq_getElem?_getD, List.getElem?_eq_getElem (show ci < vwCl.length from h)]
  rfl
theorem cl_lay {ci : Nat} (h : ci < 11) : ∀ w ∈ u_ws (cTb ci).1 (cTb ci).2.1 (cTb ci).2.2, w ∈ GB := fun w hw =>
  in_lay (List.mem_flatMap.mpr ⟨_, List.mem_of_getElem? (cl_get h), hw⟩)
def ftyD (ci k : Nat) : FieldType := match fty ci k with
  | 0 => .int
  | 1 => .long
  | 1000701 => .int
  | _ => ((parseFieldDescriptor ((cTb ci).2.1 k).2.2.1).getD .int)
theorem cl_ty : ∀ ci, ci < 11 → ∀ k, k < (cTb ci).2.2 → parseFieldDescriptor ((cTb ci).2.1 k).2.2.1 = some ((parseFieldDescriptor ((cTb ci).2.1 k).2.2.1).getD .int) := by decide +kernel
theorem cl_nm : ∀ ci, ci < 11 → ∀ a, a < (cTb ci).2.2 → ∀ b, b < (cTb ci).2.2 → a ≠ b → ((cTb ci).2.1 a).2.1 ≠ ((cTb ci).2.1 b).2.1 := by decide +kernel
theorem cl_int : ∀ ci, ci < 11 → ∀ k, k < (cTb ci).2.2 → fty ci k = 0 → parseFieldDescriptor ((cTb ci).2.1 k).2.2.1 = some .int ∧ ((cTb ci).2.1 k).2.2.2 = false := by decide +kernel
theorem cl_lng : ∀ ci, ci < 11 → ∀ k, k < (cTb ci).2.2 → fty ci k = 1 → parseFieldDescriptor ((cTb ci).2.1 k).2.2.1 = some .long ∧ ((cTb ci).2.1 k).2.2.2 = false := by decide +kernel
theorem ty_refs : ∀ a, a < 88 → TY a < 1000 → TY a - 10 < 11 ∧ 10 ≤ TY a ∧ ∀ k, k < (cTb (TY a - 10)).2.2 → (fty (TY a - 10) k = 0 ∨ fty (TY a - 10) k = 1 ∨ (10 ≤ fty (TY a - 10) k ∧ fty (TY a - 10) k ≠ 33 ∧ a + fof (TY a - 10) k < 88 ∧ TY (a + fof (TY a - 10) k) = fty (TY a - 10) k)) := by decide +kernel
theorem ty_rows : ∀ a, a < 88 → (TY a = 4000003 → ∀ j, j < 3 → a + 1 + 7 * j < 88 ∧ TY (a + 1 + 7 * j) = 17) ∧ (TY a = 5000004 → ∀ j, j < 4 → a + 1 + 2 * j < 88 ∧ TY (a + 1 + 2 * j) = 18) := by decide +kernel
theorem ty_kind : ∀ a, a < 88 → TY a < 22 ∨ (1000000 ≤ TY a ∧ TY a % 1000000 < 40000 ∧ (TY a / 1000000 = 1 ∨ TY a / 1000000 = 2 ∨ TY a / 1000000 = 3 ∨ TY a = 4000003 ∨ TY a = 5000004)) := by decide +kernel
theorem prm_in : ∀ j, j < 25 → 0 ≤ prm j ∧ prm j < 100 := by decide +kernel
theorem schr_in : ∀ k, k < SLen.length → SLen.getD k 0 < 100 ∧ ∀ j, j < SLen.getD k 0 → 0 ≤ schr k j ∧ schr k j < 128 := by decide +kernel
theorem exc_ok : ∀ E, E < 5 → Bundle.fit (excN E) = true ∧ (∀ w ∈ Cond.classLink RX10 (excK E) (excN E) :: Cond.initialized (excN E) :: xt_A RX10 (excC E) (excN E) (excI E) (excB E), vx_ot w = true) ∧ ∀ w ∈ (xt_A RX10 (excC E) (excN E) (excI E) (excB E)).filter (fun w => !goodWord w), w ∈ NGW := by decide +kernel
theorem exc_dec : ∀ E, E < 5 → decode (excB E) 0 = .ok (.aload_n 0, 1) ∧ decode (excB E) 1 = .ok (.aload_n 1, 1) ∧ decode (excB E) 2 = .ok (.invokespecial (excI E), 3) ∧ decode (excB E) 5 = .ok (.return_, 1) := by decide +kernel
