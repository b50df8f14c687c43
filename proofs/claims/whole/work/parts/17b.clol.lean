/-! THE LAW'S STRAIGHT CODE AND ITS PLAIN CALLS: the places of a frame with cells made -/
def CtN (d y : Nat) (As : List Vv) (σ : Sg) (r : Rs) (σ' : Sg) : Prop := ∃ σ1, Ct d y As σ r σ1 ∧ σ' = o80 σ σ1 ∧ (∀ v ∈ As, v.2.1 ≠ 9998) ∧ (∀ vs, r = .inl vs → ∀ v ∈ vs, v.2.1 ≠ 9998) ∧ ∃ vs, r = .inl vs
theorem cl12 : ∀ q ∈ CLt12, q.2.2.1 = false ∧ (mY q.2.1).cls ≠ "java/lang/String" := by decide +kernel
section CLL
variable {p : Program} {l : Launch} {e : Env} {R : Room} {s : State} {m : MethodId} {args : Array Value} {below : List Frame} {meth : Method} {c : Code} {K : KT} {A : Nat → Prop} {nL cl sl : Nat} {hh : Prop} {Q : State → Prop}
variable {cc : ByteArray} {r : Option FieldType} {d : Nat}
set_option maxHeartbeats 4000000 in
theorem clo_L (h81 : K.2.2.1 9998 ≠ 0) (C : Cx p l s m args meth c K A nL 12 cc r hh) (hfr : 13 + d ≤ R.frames) (hlo : 191 + 40 * d ≤ R.locals) (hcl : cl ≤ R.cells) (hsl : sl ≤ R.slots) :
    Clo (CtN d) 12 cc r (XM p l e R s m args below meth c K A nL cl sl Q) (fun _ _ => False) (fun _ _ => False) := by
  refine ⟨fun pc n i L S σ hd hn h => ?_, fun pc j E L σ ho h1 h4 d0 d3 dd h => h.elim, fun pc L S σ h => fun hn hL hS hO => h hL hS hO hn hL hS hO, fun pc L L2 S σ hw h => ?_⟩
  · have hR2 : 1 ≤ R.frames ∧ 60 ≤ R.locals := by omega
    cases i with
    | iconst z =>
      have hn : n = 1 := hn
      subst hn
      exact xs_iconst C hd h
    | bipush z =>
      have hn : n = 2 := hn
      subst hn
      exact xs_bipush C hd h
    | sipush z =>
      have hn : n = 3 := hn
      subst hn
      exact xs_sipush C hd h
    | lconst f =>
      have hn : n = 1 := hn
      subst hn
      exact xs_lconst C hd h
    | ldc k =>
      have hn : n = 2 := hn
      subst hn
      rcases h with ⟨z, h1, h2⟩ | ⟨j, h1, h2⟩
      · exact xs_ldcI C hd h1 h2
      · exact xs_ldcS C hd h1 h2
    | ldc_w k =>
      have hn : n = 3 := hn
      subst hn
      obtain ⟨z, h1, h2⟩ := h
      exact xs_ldcwI C hd h1 h2
    | ldc2_w k =>
      have hn : n = 3 := hn
      subst hn
      obtain ⟨z, h1, h2⟩ := h
      exact xs_ldc2 C hd h1 h2
    | iload k =>
      have hn : n = 2 := hn
      subst hn
      obtain ⟨z, h1, h2⟩ := h
      exact xs_iload C hd h1 h2
    | iload_n k =>
      have hn : n = 1 := hn
      subst hn
      obtain ⟨z, h1, h2⟩ := h
      exact xs_iload_n C hd h1 h2
    | lload k =>
      have hn : n = 2 := hn
      subst hn
      obtain ⟨z, h1, h2⟩ := h
      exact xs_lload C hd h1 h2
    | lload_n k =>
      have hn : n = 1 := hn
      subst hn
      obtain ⟨z, h1, h2⟩ := h
      exact xs_lload_n C hd h1 h2
    | aload k =>
      have hn : n = 2 := hn
      subst hn
      obtain ⟨t, a, h1, h2, h3, h4⟩ := h
      exact xs_aload C hd h1 h2 h3 h4
    | aload_n k =>
      have hn : n = 1 := hn
      subst hn
      obtain ⟨t, a, h1, h2, h3, h4⟩ := h
      exact xs_aload_n C hd h1 h2 h3 h4
    | istore k =>
      have hn : n = 2 := hn
      subst hn
      obtain ⟨z, R9, rfl, h1, h2⟩ := h
      exact xs_istore C hd h1 h2
    | istore_n k =>
      have hn : n = 1 := hn
      subst hn
      obtain ⟨z, R9, rfl, h1, h2⟩ := h
      exact xs_istore_n C hd h1 h2
    | lstore k =>
      have hn : n = 2 := hn
      subst hn
      obtain ⟨z, R9, rfl, h1, h2⟩ := h
      exact xs_lstore C hd h1 h2
    | lstore_n k =>
      have hn : n = 1 := hn
      subst hn
      obtain ⟨z, R9, rfl, h1, h2⟩ := h
      exact xs_lstore_n C hd h1 h2
    | astore k =>
      have hn : n = 2 := hn
      subst hn
      obtain ⟨t, a, R9, rfl, h1, h2, h3, h4⟩ := h
      exact xs_astore C hd h1 h2 h3 h4
    | astore_n k =>
      have hn : n = 1 := hn
      subst hn
      obtain ⟨t, a, R9, rfl, h1, h2, h3, h4⟩ := h
      exact xs_astore_n C hd h1 h2 h3 h4
    | iinc k q =>
      have hn : n = 3 := hn
      subst hn
      obtain ⟨z, h1, h2, h3⟩ := h
      exact xs_iinc C hd h1 h2 h3
    | iadd =>
      have hn : n = 1 := hn
      subst hn
      obtain ⟨x, y, R9, rfl, h1⟩ := h
      exact xs_iadd C hd h1
    | isub =>
      have hn : n = 1 := hn
      subst hn
      obtain ⟨x, y, R9, rfl, h1⟩ := h
      exact xs_isub C hd h1
    | imul =>
      have hn : n = 1 := hn
      subst hn
      obtain ⟨x, y, R9, rfl, h1⟩ := h
      exact xs_imul C hd h1
    | iand =>
      have hn : n = 1 := hn
      subst hn
      obtain ⟨x, y, R9, rfl, h1⟩ := h
      exact xs_iand C hd h1
    | ior =>
      have hn : n = 1 := hn
      subst hn
      obtain ⟨x, y, R9, rfl, h1⟩ := h
      exact xs_ior C hd h1
    | ixor =>
      have hn : n = 1 := hn
      subst hn
      obtain ⟨x, y, R9, rfl, h1⟩ := h
      exact xs_ixor C hd h1
    | ishl =>
      have hn : n = 1 := hn
      subst hn
      obtain ⟨x, y, R9, rfl, h1⟩ := h
      exact xs_ishl C hd h1
    | ishr =>
      have hn : n = 1 := hn
      subst hn
      obtain ⟨x, y, R9, rfl, h1⟩ := h
      exact xs_ishr C hd h1
    | iushr =>
      have hn : n = 1 := hn
      subst hn
      obtain ⟨x, y, R9, rfl, h1⟩ := h
      exact xs_iushr C hd h1
    | ladd =>
      have hn : n = 1 := hn
      subst hn
      obtain ⟨x, y, R9, rfl, h1⟩ := h
      exact xs_ladd C hd h1
    | lsub =>
      have hn : n = 1 := hn
      subst hn
      obtain ⟨x, y, R9, rfl, h1⟩ := h
      exact xs_lsub C hd h1
    | lmul =>
      have hn : n = 1 := hn
      subst hn
      obtain ⟨x, y, R9, rfl, h1⟩ := h
      exact xs_lmul C hd h1
    | land =>
      have hn : n = 1 := hn
      subst hn
      obtain ⟨x, y, R9, rfl, h1⟩ := h
      exact xs_land C hd h1
    | lor =>
      have hn : n = 1 := hn
      subst hn
      obtain ⟨x, y, R9, rfl, h1⟩ := h
      exact xs_lor C hd h1
    | lshl =>
      have hn : n = 1 := hn
      subst hn
      obtain ⟨x, y, R9, rfl, h1⟩ := h
      exact xs_lshl C hd h1
    | lshr =>
      have hn : n = 1 := hn
      subst hn
      obtain ⟨x, y, R9, rfl, h1⟩ := h
      exact xs_lshr C hd h1
    | lcmp =>
      have hn : n = 1 := hn
      subst hn
      obtain ⟨x, y, R9, rfl, h1⟩ := h
      exact xs_lcmp C hd h1
    | idiv =>
      have hn : n = 1 := hn
      subst hn
      obtain ⟨x, y, R9, rfl, h0, h1⟩ := h
      exact xs_idiv C hd h0 h1
    | irem =>
      have hn : n = 1 := hn
      subst hn
      obtain ⟨x, y, R9, rfl, h0, h1⟩ := h
      exact xs_irem C hd h0 h1
    | ldiv =>
      have hn : n = 1 := hn
      subst hn
      obtain ⟨x, y, R9, rfl, h0, h1⟩ := h
      exact xs_ldiv C hd h0 h1
    | lrem =>
      have hn : n = 1 := hn
      subst hn
      obtain ⟨x, y, R9, rfl, h0, h1⟩ := h
      exact xs_lrem C hd h0 h1
    | ineg =>
      have hn : n = 1 := hn
      subst hn
      obtain ⟨x, R9, rfl, h1⟩ := h
      exact xs_ineg C hd h1
    | lneg =>
      have hn : n = 1 := hn
      subst hn
      obtain ⟨x, R9, rfl, h1⟩ := h
      exact xs_lneg C hd h1
    | i2l =>
      have hn : n = 1 := hn
      subst hn
      obtain ⟨x, R9, rfl, h1⟩ := h
      exact xs_i2l C hd h1
    | l2i =>
      have hn : n = 1 := hn
      subst hn
      obtain ⟨x, R9, rfl, h1⟩ := h
      exact xs_l2i C hd h1
    | i2b =>
      have hn : n = 1 := hn
      subst hn
      obtain ⟨x, R9, rfl, h1⟩ := h
      exact xs_i2b C hd h1
    | i2s =>
      have hn : n = 1 := hn
      subst hn
      obtain ⟨x, R9, rfl, h1⟩ := h
      exact xs_i2s C hd h1
    | i2c =>
      have hn : n = 1 := hn
      subst hn
      obtain ⟨x, R9, rfl, h0, h1, h2⟩ := h
      exact xs_i2c C hd h0 h1 h2
    | dup =>
      have hn : n = 1 := hn
      subst hn
      obtain ⟨v, R9, rfl, h0, -, h1⟩ := h
      exact xs_dup C hd h0 h1
    | dup2 =>
      have hn : n = 1 := hn
      subst hn
      rcases h with ⟨v, u, R9, rfl, h1, h2, -, -, h3⟩ | ⟨z, R9, rfl, h3⟩
      · exact xs_dup2 C hd h1 h2 h3
      · exact xs_dup2l C hd h3
    | pop =>
      have hn : n = 1 := hn
      subst hn
      obtain ⟨x, R9, rfl, h1⟩ := h
      exact xs_pop C hd h1
    | pop2 =>
      have hn : n = 1 := hn
      subst hn
      rcases h with ⟨v, u, R9, rfl, h1, h2, -, -, h3⟩ | ⟨z, R9, rfl, h3⟩
      · exact xs_pop2 C hd h1 h2 h3
      · exact xs_pop2l C hd h3
    | goto off =>
      have hn : n = 3 := hn
      subst hn
      exact xs_goto C hd h.1 h.2
    | ifCond cn off =>
      have hn : n = 3 := hn
      subst hn
      obtain ⟨h0, x, R9, rfl, h1⟩ := h
      cases cn with
      | eq => exact xs_if_eq C hd h0 h1
      | ne => exact xs_if_ne C hd h0 h1
      | lt => exact xs_if_lt C hd h0 h1
      | ge => exact xs_if_ge C hd h0 h1
      | gt => exact xs_if_gt C hd h0 h1
      | le => exact xs_if_le C hd h0 h1
    | if_icmp cn off =>
      have hn : n = 3 := hn
      subst hn
      obtain ⟨h0, x, y, R9, rfl, h1⟩ := h
      cases cn with
      | eq => exact xs_icmp_eq C hd h0 h1
      | ne => exact xs_icmp_ne C hd h0 h1
      | lt => exact xs_icmp_lt C hd h0 h1
      | ge => exact xs_icmp_ge C hd h0 h1
      | gt => exact xs_icmp_gt C hd h0 h1
      | le => exact xs_icmp_le C hd h0 h1
    | tableswitch dflt lo hi offs =>
      obtain ⟨z, R9, rfl, h1, h2⟩ := h
      exact xs_tsw C hd h1 h2
    | getfield k =>
      have hn : n = 3 := hn
      subst hn
      rcases h with ⟨ci, f, a, R9, rfl, h1, h2⟩ | ⟨a, R9, rfl, ho, ha, ⟨rfl, h1⟩ | ⟨rfl, h1⟩⟩
      · exact xs_getf C hd h1 h2
      · exact xs_getfV C hd ho ha h1
      · exact xs_getfC C hd ho ha h1
    | putfield k =>
      have hn : n = 3 := hn
      subst hn
      obtain ⟨ci, f, a, v, R9, rfl, h1, h2, h3⟩ := h
      exact xs_putf C hd h1 h2 h3
    | getstatic k =>
      have hn : n = 3 := hn
      subst hn
      rcases h with ⟨ho, rfl, h1⟩ | ⟨ho, rfl, h1⟩ | ⟨ho, rfl, h1⟩
      · exact xs_getsP C hd ho h1
      · exact xs_getsC C hd ho h1
      · exact xs_getsF C hd ho h1
    | arraylength =>
      have hn : n = 1 := hn
      subst hn
      obtain ⟨t, a, R9, rfl, ⟨h1, h2⟩ | ⟨rfl, h1, h2⟩⟩ := h
      · by_cases h6 : t = 6000025
        · subst h6
          intro hn hL hS
          have ha : a = 3000 := by
            rcases (ok_r (t := 6000025) (by decide)).mp (okh hS) with q | q | q | q | q
            · exact absurd q.2 (by
                intro q2
                rcases ty_kind a q.1 with z | ⟨z1, z2, z3⟩ <;> omega)
            · omega
            · omega
            · exact q.2
            · omega
          subst ha
          exact xs_alenP C hd h2 hn hL hS
        · exact xs_alenA C hd h1 h6 h2
      · exact xs_alenB C hd h2
    | iaload =>
      have hn : n = 1 := hn
      subst hn
      obtain ⟨j, t, a, R9, rfl, ⟨h1, h2, h3⟩ | ⟨rfl, h2, h3⟩⟩ := h
      · exact xs_iald C hd h1 h2 h3
      · exact xs_ialdP C hd h2 h3
    | laload =>
      have hn : n = 1 := hn
      subst hn
      obtain ⟨j, t, a, R9, rfl, h1, h2, h3⟩ := h
      exact xs_lald C hd h1 h2 h3
    | baload =>
      have hn : n = 1 := hn
      subst hn
      obtain ⟨j, t, a, R9, rfl, ⟨h1, h2, h3⟩ | ⟨rfl, h1, h2, h3⟩⟩ := h
      · exact xs_zald C hd h1 h2 h3
      · exact xs_baldB C hd h2 h3
    | aaload =>
      have hn : n = 1 := hn
      subst hn
      obtain ⟨j, t, a, R9, rfl, ⟨rfl, h2, h3⟩ | ⟨rfl, h2, h3⟩⟩ := h
      · exact xs_aaldT C hd h2 h3
      · exact xs_aaldR C hd h2 h3
    | iastore =>
      have hn : n = 1 := hn
      subst hn
      obtain ⟨z, j, t, a, R9, rfl, h1, h2, h3⟩ := h
      exact xs_iast C hd h1 h2 h3
    | lastore =>
      have hn : n = 1 := hn
      subst hn
      obtain ⟨z, j, t, a, R9, rfl, h1, h2, h3⟩ := h
      exact xs_last C hd h1 h2 h3
    | bastore =>
      have hn : n = 1 := hn
      subst hn
      obtain ⟨z, j, t, a, R9, rfl, h1, h2, h4, h3⟩ := h
      exact xs_zast C hd h1 h2 h4 h3
    | ireturn =>
      obtain ⟨z, rfl, h1, h2⟩ := h
      exact h2.elim
    | lreturn =>
      obtain ⟨z, rfl, h1, h2⟩ := h
      exact h2.elim
    | areturn =>
      obtain ⟨t, a, rfl, h1, h2, h3, h4⟩ := h
      exact h4.elim
    | return_ =>
      obtain ⟨rfl, h1, h2⟩ := h
      exact h2.elim
    | invokevirtual k =>
      have hn : n = 3 := hn
      subst hn
      obtain ⟨y, na, As, t, a, R9, h1, rfl, h2, h3, h4, h5⟩ := h
      have h4b : ∃ ci, ci < 11 ∧ t = 10 + ci ∧ (mY y).cls = (cTb ci).1 := by
        rcases h4 with h4 | ⟨-, -, h4⟩
        · exact h4
        · exact absurd h4 (cl12 _ (look_mem h1)).2
      rcases h5 with ⟨v, σ', ⟨σ1, g1, rfl, g3, g4, -⟩, g2⟩ | ⟨E, σ', g1, g2⟩
      · exact xs_callVH (rr := .inl v) h81 C hd h1 h2 h3 hfr hlo (show cl + 0 ≤ R.cells from hcl) (show sl + 0 ≤ R.slots from hsl) h4b (fun v hv => g3 v (List.mem_cons_of_mem _ hv)) g4 g1 (fun vs hv => by cases hv; exact g2) (fun E hE => by cases hE)
      · exact g2.elim
    | invokestatic k =>
      rcases h with ⟨y, na, As, R9, h1, rfl, h2, h3, h5⟩ | ⟨nn, dp, t2, b, sp, t1, a, R9, h1, -⟩ | ⟨op, R9, h1, -⟩
      · exact Bool.noConfusion (cl12 _ (look_mem h1)).1
      · exact absurd h1 (by show ¬ (none : Option Unit) = some (); exact fun z => nomatch z)
      · exact absurd h1 (by show ¬ (none : Option Nat) = some op; exact fun z => nomatch z)
    | _ => exact h.elim
  · intro hn hL hS hO H locs ls hP hSS hl
    exact h (by rw [← wkr_len hw]; exact hn) (wkr_ok hw hL) hS hO H locs ls hP hSS ⟨hl.1, hl.2.1, fun j hj => by
      rcases wkr_lg hw j with q | q
      · rw [q] at hj ⊢; exact hl.2.2 j hj
      · rw [q] at hj; exact absurd rfl hj⟩
end CLL
