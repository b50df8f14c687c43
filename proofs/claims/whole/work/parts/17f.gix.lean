/-! the words of the constructors -/
def GIx : List Cond := [Cond.instanceMethod objectInit, Cond.code objectInit ⟨#[0xb1]⟩ 1 none, Cond.arrayClass .int, Cond.arrayClass .long, Cond.arrayClass .boolean, Cond.methodLink RX0 3 objectInit, Cond.instantiable RX0 1, Cond.initialized RX0, Cond.instanceMethod yX0_init, Cond.code yX0_init cX0_init 1 none, Cond.methodLink RX1 3 objectInit, Cond.instantiable RX1 1, Cond.initialized RX1, Cond.instanceMethod yX1_init, Cond.code yX1_init cX1_init 1 none, Cond.methodLink RX2 1 objectInit, Cond.instantiable RX2 1, Cond.initialized RX2, Cond.instanceMethod yX2_init, Cond.code yX2_init cX2_init 1 none, Cond.methodLink RX4 3 objectInit, Cond.instantiable RX4 3, Cond.initialized RX4, Cond.instanceMethod yX4_init, Cond.code yX4_init cX4_init 1 none, Cond.methodLink RX5 3 objectInit, Cond.classLink RX5 18 RX8, Cond.classLink RX5 25 RX7, Cond.instantiable RX5 5, Cond.initialized RX5, Cond.instanceMethod yX5_init, Cond.code yX5_init cX5_init 1 none, Cond.methodLink RX6 3 objectInit, Cond.instantiable RX6 8, Cond.initialized RX6, Cond.instanceMethod yX6_init, Cond.code yX6_init cX6_init 5 none, Cond.methodLink RX7 3 objectInit, Cond.instantiable RX7 7, Cond.initialized RX7, Cond.instanceMethod yX7_init, Cond.code yX7_init cX7_init 1 none, Cond.methodLink RX8 3 objectInit, Cond.methodLink RX8 26 yX1_init, Cond.classLink RX8 24 RX1, Cond.instantiable RX8 9, Cond.initialized RX8, Cond.instanceMethod yX8_init, Cond.code yX8_init cX8_init 1 none, Cond.methodLink RX9 3 objectInit, Cond.instantiable RX9 3, Cond.initialized RX9, Cond.instanceMethod yX9_init, Cond.code yX9_init cX9_init 1 none, Cond.methodLink RX10 1 objectInit, Cond.methodLink RX10 66 yX6_init, Cond.classLink RX10 23 RX8, Cond.classLink RX10 41 RX9, Cond.classLink RX10 50 RX5, Cond.classLink RX10 57 RX4, Cond.classLink RX10 64 RX6, Cond.classLink RX10 71 RX0, Cond.classLink RX10 78 RX2, Cond.instantiable RX10 15, Cond.initialized RX10, Cond.instanceMethod yX10_init, Cond.code yX10_init cX10_init 2 none, Cond.methodLink RX11 1 objectInit, Cond.instantiable RX11 29, Cond.initialized RX11, Cond.instanceMethod yX11_init, Cond.code yX11_init cX11_init 1 none, Cond.classLink RL 8 RX10, Cond.classLink RL 168 RX11, Cond.methodLink RL 167 yX10_init, Cond.methodLink RL 170 yX11_init]
def giA (w : Cond) (q : Nat × Nat) : Bool := decide ((tbk q.1)[q.2]? = some w) && (goodWord w || (match w with | .arrayClass _ => true | _ => false))
def giZ : List Cond → List (Nat × Nat) → Bool
  | [], _ => true
  | w :: ws, q :: qs => giA w q && giZ ws qs
  | _ :: _, [] => false
theorem giZ_ok : ∀ {L : List Cond} {P : List (Nat × Nat)}, giZ L P = true → ∀ w ∈ L, w ∈ lw_tbl ∧ ((w.onTables && w.keeps) = true ∨ ∃ ty, w = .arrayClass ty) := by
  intro L
  induction L with
  | nil => intro P _ w h; cases h
  | cons v L ih =>
    intro P h w hw
    cases P with
    | nil => cases h
    | cons q P =>
      simp only [giZ, Bool.and_eq_true] at h
      rcases List.mem_cons.mp hw with rfl | hw
      · have h1 := h.1
        simp only [giA, Bool.and_eq_true, decide_eq_true_eq, Bool.or_eq_true] at h1
        refine ⟨tbk_in (List.mem_of_getElem? h1.1), ?_⟩
        rcases h1.2 with h2 | h2
        · exact good_of_word h2
        · cases w
          case arrayClass ty => exact Or.inr ⟨ty, rfl⟩
          all_goals cases h2
      · exact ih h.2 w hw
set_option maxRecDepth 100000 in
theorem gix_ok : giZ GIx [(1, 34), (1, 35), (1, 55), (1, 56), (1, 137), (1, 211), (1, 207), (1, 9), (1, 209), (1, 210), (1, 47), (1, 43), (1, 3), (1, 45), (1, 46), (1, 221), (1, 217), (1, 10), (1, 219), (1, 220), (1, 162), (1, 158), (1, 7), (1, 160), (1, 161), (1, 106), (1, 107), (1, 109), (1, 102), (1, 5), (1, 104), (1, 105), (1, 179), (1, 175), (1, 8), (1, 177), (1, 178), (1, 114), (1, 110), (1, 6), (1, 112), (1, 113), (1, 41), (1, 44), (1, 42), (1, 37), (1, 2), (1, 39), (1, 40), (1, 231), (1, 227), (1, 11), (1, 229), (1, 230), (1, 33), (1, 176), (1, 36), (1, 99), (1, 101), (1, 157), (1, 174), (1, 206), (1, 216), (1, 29), (1, 1), (1, 31), (1, 32), (6, 174), (6, 170), (1, 12), (6, 172), (6, 173), (1, 28), (6, 169), (1, 30), (6, 171)] = true := by decide +kernel
def GI : List Cond := GIx ++ GB
theorem gi_ok : ∀ w ∈ GI, w ∈ lw_tbl ∧ ((w.onTables && w.keeps) = true ∨ ∃ ty, w = .arrayClass ty) := fun w hw => (List.mem_append.mp hw).elim (giZ_ok gix_ok w) (fun h => ⟨(gb_ok w h).1, good_of_word (gb_ok w h).2⟩)
theorem gi_in : ∀ w ∈ GI, w ∈ GI ∧ ((w.onTables && w.keeps) = true ∨ ∃ ty, w = .arrayClass ty) := fun w hw => ⟨hw, (gi_ok w hw).2⟩
theorem gi0 : Cond.instanceMethod objectInit ∈ GI := List.mem_append_left _ (List.mem_of_getElem? (i := 0) rfl)
theorem gi1 : Cond.code objectInit ⟨#[0xb1]⟩ 1 none ∈ GI := List.mem_append_left _ (List.mem_of_getElem? (i := 1) rfl)
theorem gi2 : Cond.arrayClass .int ∈ GI := List.mem_append_left _ (List.mem_of_getElem? (i := 2) rfl)
theorem gi3 : Cond.arrayClass .long ∈ GI := List.mem_append_left _ (List.mem_of_getElem? (i := 3) rfl)
theorem gi4 : Cond.arrayClass .boolean ∈ GI := List.mem_append_left _ (List.mem_of_getElem? (i := 4) rfl)
theorem gi5 : Cond.methodLink RX0 3 objectInit ∈ GI := List.mem_append_left _ (List.mem_of_getElem? (i := 5) rfl)
theorem gi6 : Cond.instantiable RX0 1 ∈ GI := List.mem_append_left _ (List.mem_of_getElem? (i := 6) rfl)
theorem gi7 : Cond.initialized RX0 ∈ GI := List.mem_append_left _ (List.mem_of_getElem? (i := 7) rfl)
theorem gi8 : Cond.instanceMethod yX0_init ∈ GI := List.mem_append_left _ (List.mem_of_getElem? (i := 8) rfl)
theorem gi9 : Cond.code yX0_init cX0_init 1 none ∈ GI := List.mem_append_left _ (List.mem_of_getElem? (i := 9) rfl)
theorem gi10 : Cond.methodLink RX1 3 objectInit ∈ GI := List.mem_append_left _ (List.mem_of_getElem? (i := 10) rfl)
theorem gi11 : Cond.instantiable RX1 1 ∈ GI := List.mem_append_left _ (List.mem_of_getElem? (i := 11) rfl)
theorem gi12 : Cond.initialized RX1 ∈ GI := List.mem_append_left _ (List.mem_of_getElem? (i := 12) rfl)
theorem gi13 : Cond.instanceMethod yX1_init ∈ GI := List.mem_append_left _ (List.mem_of_getElem? (i := 13) rfl)
theorem gi14 : Cond.code yX1_init cX1_init 1 none ∈ GI := List.mem_append_left _ (List.mem_of_getElem? (i := 14) rfl)
theorem gi15 : Cond.methodLink RX2 1 objectInit ∈ GI := List.mem_append_left _ (List.mem_of_getElem? (i := 15) rfl)
theorem gi16 : Cond.instantiable RX2 1 ∈ GI := List.mem_append_left _ (List.mem_of_getElem? (i := 16) rfl)
theorem gi17 : Cond.initialized RX2 ∈ GI := List.mem_append_left _ (List.mem_of_getElem? (i := 17) rfl)
theorem gi18 : Cond.instanceMethod yX2_init ∈ GI := List.mem_append_left _ (List.mem_of_getElem? (i := 18) rfl)
theorem gi19 : Cond.code yX2_init cX2_init 1 none ∈ GI := List.mem_append_left _ (List.mem_of_getElem? (i := 19) rfl)
theorem gi20 : Cond.methodLink RX4 3 objectInit ∈ GI := List.mem_append_left _ (List.mem_of_getElem? (i := 20) rfl)
theorem gi21 : Cond.instantiable RX4 3 ∈ GI := List.mem_append_left _ (List.mem_of_getElem? (i := 21) rfl)
theorem gi22 : Cond.initialized RX4 ∈ GI := List.mem_append_left _ (List.mem_of_getElem? (i := 22) rfl)
theorem gi23 : Cond.instanceMethod yX4_init ∈ GI := List.mem_append_left _ (List.mem_of_getElem? (i := 23) rfl)
theorem gi24 : Cond.code yX4_init cX4_init 1 none ∈ GI := List.mem_append_left _ (List.mem_of_getElem? (i := 24) rfl)
theorem gi25 : Cond.methodLink RX5 3 objectInit ∈ GI := List.mem_append_left _ (List.mem_of_getElem? (i := 25) rfl)
theorem gi26 : Cond.classLink RX5 18 RX8 ∈ GI := List.mem_append_left _ (List.mem_of_getElem? (i := 26) rfl)
theorem gi27 : Cond.classLink RX5 25 RX7 ∈ GI := List.mem_append_left _ (List.mem_of_getElem? (i := 27) rfl)
theorem gi28 : Cond.instantiable RX5 5 ∈ GI := List.mem_append_left _ (List.mem_of_getElem? (i := 28) rfl)
theorem gi29 : Cond.initialized RX5 ∈ GI := List.mem_append_left _ (List.mem_of_getElem? (i := 29) rfl)
theorem gi30 : Cond.instanceMethod yX5_init ∈ GI := List.mem_append_left _ (List.mem_of_getElem? (i := 30) rfl)
theorem gi31 : Cond.code yX5_init cX5_init 1 none ∈ GI := List.mem_append_left _ (List.mem_of_getElem? (i := 31) rfl)
theorem gi32 : Cond.methodLink RX6 3 objectInit ∈ GI := List.mem_append_left _ (List.mem_of_getElem? (i := 32) rfl)
theorem gi33 : Cond.instantiable RX6 8 ∈ GI := List.mem_append_left _ (List.mem_of_getElem? (i := 33) rfl)
theorem gi34 : Cond.initialized RX6 ∈ GI := List.mem_append_left _ (List.mem_of_getElem? (i := 34) rfl)
theorem gi35 : Cond.instanceMethod yX6_init ∈ GI := List.mem_append_left _ (List.mem_of_getElem? (i := 35) rfl)
theorem gi36 : Cond.code yX6_init cX6_init 5 none ∈ GI := List.mem_append_left _ (List.mem_of_getElem? (i := 36) rfl)
theorem gi37 : Cond.methodLink RX7 3 objectInit ∈ GI := List.mem_append_left _ (List.mem_of_getElem? (i := 37) rfl)
theorem gi38 : Cond.instantiable RX7 7 ∈ GI := List.mem_append_left _ (List.mem_of_getElem? (i := 38) rfl)
theorem gi39 : Cond.initialized RX7 ∈ GI := List.mem_append_left _ (List.mem_of_getElem? (i := 39) rfl)
theorem gi40 : Cond.instanceMethod yX7_init ∈ GI := List.mem_append_left _ (List.mem_of_getElem? (i := 40) rfl)
theorem gi41 : Cond.code yX7_init cX7_init 1 none ∈ GI := List.mem_append_left _ (List.mem_of_getElem? (i := 41) rfl)
theorem gi42 : Cond.methodLink RX8 3 objectInit ∈ GI := List.mem_append_left _ (List.mem_of_getElem? (i := 42) rfl)
theorem gi43 : Cond.methodLink RX8 26 yX1_init ∈ GI := List.mem_append_left _ (List.mem_of_getElem? (i := 43) rfl)
theorem gi44 : Cond.classLink RX8 24 RX1 ∈ GI := List.mem_append_left _ (List.mem_of_getElem? (i := 44) rfl)
theorem gi45 : Cond.instantiable RX8 9 ∈ GI := List.mem_append_left _ (List.mem_of_getElem? (i := 45) rfl)
theorem gi46 : Cond.initialized RX8 ∈ GI := List.mem_append_left _ (List.mem_of_getElem? (i := 46) rfl)
theorem gi47 : Cond.instanceMethod yX8_init ∈ GI := List.mem_append_left _ (List.mem_of_getElem? (i := 47) rfl)
theorem gi48 : Cond.code yX8_init cX8_init 1 none ∈ GI := List.mem_append_left _ (List.mem_of_getElem? (i := 48) rfl)
theorem gi49 : Cond.methodLink RX9 3 objectInit ∈ GI := List.mem_append_left _ (List.mem_of_getElem? (i := 49) rfl)
theorem gi50 : Cond.instantiable RX9 3 ∈ GI := List.mem_append_left _ (List.mem_of_getElem? (i := 50) rfl)
theorem gi51 : Cond.initialized RX9 ∈ GI := List.mem_append_left _ (List.mem_of_getElem? (i := 51) rfl)
theorem gi52 : Cond.instanceMethod yX9_init ∈ GI := List.mem_append_left _ (List.mem_of_getElem? (i := 52) rfl)
theorem gi53 : Cond.code yX9_init cX9_init 1 none ∈ GI := List.mem_append_left _ (List.mem_of_getElem? (i := 53) rfl)
theorem gi54 : Cond.methodLink RX10 1 objectInit ∈ GI := List.mem_append_left _ (List.mem_of_getElem? (i := 54) rfl)
theorem gi55 : Cond.methodLink RX10 66 yX6_init ∈ GI := List.mem_append_left _ (List.mem_of_getElem? (i := 55) rfl)
theorem gi56 : Cond.classLink RX10 23 RX8 ∈ GI := List.mem_append_left _ (List.mem_of_getElem? (i := 56) rfl)
theorem gi57 : Cond.classLink RX10 41 RX9 ∈ GI := List.mem_append_left _ (List.mem_of_getElem? (i := 57) rfl)
theorem gi58 : Cond.classLink RX10 50 RX5 ∈ GI := List.mem_append_left _ (List.mem_of_getElem? (i := 58) rfl)
theorem gi59 : Cond.classLink RX10 57 RX4 ∈ GI := List.mem_append_left _ (List.mem_of_getElem? (i := 59) rfl)
theorem gi60 : Cond.classLink RX10 64 RX6 ∈ GI := List.mem_append_left _ (List.mem_of_getElem? (i := 60) rfl)
theorem gi61 : Cond.classLink RX10 71 RX0 ∈ GI := List.mem_append_left _ (List.mem_of_getElem? (i := 61) rfl)
theorem gi62 : Cond.classLink RX10 78 RX2 ∈ GI := List.mem_append_left _ (List.mem_of_getElem? (i := 62) rfl)
theorem gi63 : Cond.instantiable RX10 15 ∈ GI := List.mem_append_left _ (List.mem_of_getElem? (i := 63) rfl)
theorem gi64 : Cond.initialized RX10 ∈ GI := List.mem_append_left _ (List.mem_of_getElem? (i := 64) rfl)
theorem gi65 : Cond.instanceMethod yX10_init ∈ GI := List.mem_append_left _ (List.mem_of_getElem? (i := 65) rfl)
theorem gi66 : Cond.code yX10_init cX10_init 2 none ∈ GI := List.mem_append_left _ (List.mem_of_getElem? (i := 66) rfl)
theorem gi67 : Cond.methodLink RX11 1 objectInit ∈ GI := List.mem_append_left _ (List.mem_of_getElem? (i := 67) rfl)
theorem gi68 : Cond.instantiable RX11 29 ∈ GI := List.mem_append_left _ (List.mem_of_getElem? (i := 68) rfl)
theorem gi69 : Cond.initialized RX11 ∈ GI := List.mem_append_left _ (List.mem_of_getElem? (i := 69) rfl)
theorem gi70 : Cond.instanceMethod yX11_init ∈ GI := List.mem_append_left _ (List.mem_of_getElem? (i := 70) rfl)
theorem gi71 : Cond.code yX11_init cX11_init 1 none ∈ GI := List.mem_append_left _ (List.mem_of_getElem? (i := 71) rfl)
theorem gi72 : Cond.classLink RL 8 RX10 ∈ GI := List.mem_append_left _ (List.mem_of_getElem? (i := 72) rfl)
theorem gi73 : Cond.classLink RL 168 RX11 ∈ GI := List.mem_append_left _ (List.mem_of_getElem? (i := 73) rfl)
theorem gi74 : Cond.methodLink RL 167 yX10_init ∈ GI := List.mem_append_left _ (List.mem_of_getElem? (i := 74) rfl)
theorem gi75 : Cond.methodLink RL 170 yX11_init ∈ GI := List.mem_append_left _ (List.mem_of_getElem? (i := 75) rfl)
