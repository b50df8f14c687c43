theorem wkr_len : ∀ {L L2 : List Vv}, wkr L L2 → L.length = L2.length := by
  intro L
  induction L with
  | nil =>
    intro L2 h
    cases L2 with
    | nil => rfl
    | cons _ _ => exact h.elim
  | cons v l ih =>
    intro L2 h
    cases L2 with
    | nil => exact h.elim
    | cons w k => rw [List.length_cons, List.length_cons, ih h.2]
theorem wkr_ok : ∀ {L L2 : List Vv}, wkr L L2 → okL L → okL L2 := by
  intro L
  induction L with
  | nil =>
    intro L2 h
    cases L2 with
    | nil => exact fun h => h
    | cons _ _ => exact h.elim
  | cons v l ih =>
    intro L2 h hL
    cases L2 with
    | nil => exact h.elim
    | cons w k =>
      refine okc ?_ (ih h.2 (okt hL))
      rcases h.1 with q | q
      · rw [q]; exact okh hL
      · rw [q]; trivial
theorem wkr_lg : ∀ {L L2 : List Vv}, wkr L L2 → ∀ j, lg L2 j = lg L j ∨ lg L2 j = uV := by
  intro L
  induction L with
  | nil =>
    intro L2 h j
    cases L2 with
    | nil => exact Or.inl rfl
    | cons _ _ => exact h.elim
  | cons v l ih =>
    intro L2 h j
    cases L2 with
    | nil => exact h.elim
    | cons w k =>
      cases j with
      | zero => exact h.1
      | succ j => exact ih h.2 j
section CLO
variable {p : Program} {l : Launch} {e : Env} {R : Room} {s : State} {m : MethodId} {args : Array Value} {below : List Frame} {meth : Method} {c : Code} {K : KT} {A : Nat → Prop} {nL : Nat}
variable {own : Nat} {cc : ByteArray} {r : Option FieldType} {res : Rs} {σf : Sg} {d : Nat}
set_option maxHeartbeats 4000000 in
/-- THE MACHINE LEADS ALONG: all instructions of stp -/
theorem clo_XM (C : Cx p l s m args meth c K A nL own cc r True) (hR : R = rmO (d + 1) res) :
    Clo (Ct d) own cc r (XM p l e R s m args below meth c K A nL 0 0 (Qf below K σf res args s A)) (fun vs σ => res = .inl vs ∧ σ = σf) (fun E σ => res = .inr E ∧ σ = σf) := by
  refine ⟨fun pc n i L S σ hd hn h => ?_, fun pc j E L σ ho h1 h4 d0 d3 dd h => ?_, fun pc L S σ h => fun hn hL hS hO => h hL hS hO hn hL hS hO, fun pc L L2 S σ hw h => ?_⟩
  · have hR2 : 1 ≤ R.frames ∧ 60 ≤ R.locals := by
      rw [hR]
      show 1 ≤ 12 + (d + 1) ∧ 60 ≤ 160 + 40 * (d + 1)
      omega
    cases i with
    | iconst z =>
      have hn : n = 1 := hn
      subst hn
      exact xs_iconst C hd h
    | bipush z =>
      have hn : n = 2 := hn
      subst hn
      exact xs_bipush C hd h
    | sipush z =>
      have hn : n = 3 := hn
      subst hn
      exact xs_sipush C hd h
    | lconst f =>
      have hn : n = 1 := hn
      subst hn
      exact xs_lconst C hd h
    | ldc k =>
      have hn : n = 2 := hn
      subst hn
      rcases h with ⟨z, h1, h2⟩ | ⟨j, h1, h2⟩
      · exact xs_ldcI C hd h1 h2
      · exact xs_ldcS C hd h1 h2
    | ldc_w k =>
      have hn : n = 3 := hn
      subst hn
      obtain ⟨z, h1, h2⟩ := h
      exact xs_ldcwI C hd h1 h2
    | ldc2_w k =>
      have hn : n = 3 := hn
      subst hn
      obtain ⟨z, h1, h2⟩ := h
      exact xs_ldc2 C hd h1 h2
    | iload k =>
      have hn : n = 2 := hn
      subst hn
      obtain ⟨z, h1, h2⟩ := h
      exact xs_iload C hd h1 h2
    | iload_n k =>
      have hn : n = 1 := hn
      subst hn
      obtain ⟨z, h1, h2⟩ := h
      exact xs_iload_n C hd h1 h2
    | lload k =>
      have hn : n = 2 := hn
      subst hn
      obtain ⟨z, h1, h2⟩ := h
      exact xs_lload C hd h1 h2
    | lload_n k =>
      have hn : n = 1 := hn
      subst hn
      obtain ⟨z, h1, h2⟩ := h
      exact xs_lload_n C hd h1 h2
    | aload k =>
      have hn : n = 2 := hn
      subst hn
      obtain ⟨t, a, h1, h2, h3, h4⟩ := h
      exact xs_aload C hd h1 h2 h3 h4
    | aload_n k =>
      have hn : n = 1 := hn
      subst hn
      obtain ⟨t, a, h1, h2, h3, h4⟩ := h
      exact xs_aload_n C hd h1 h2 h3 h4
    | istore k =>
      have hn : n = 2 := hn
      subst hn
      obtain ⟨z, R9, rfl, h1, h2⟩ := h
      exact xs_istore C hd h1 h2
    | istore_n k =>
      have hn : n = 1 := hn
      subst hn
      obtain ⟨z, R9, rfl, h1, h2⟩ := h
      exact xs_istore_n C hd h1 h2
    | lstore k =>
      have hn : n = 2 := hn
      subst hn
      obtain ⟨z, R9, rfl, h1, h2⟩ := h
      exact xs_lstore C hd h1 h2
    | lstore_n k =>
      have hn : n = 1 := hn
      subst hn
      obtain ⟨z, R9, rfl, h1, h2⟩ := h
      exact xs_lstore_n C hd h1 h2
    | astore k =>
      have hn : n = 2 := hn
      subst hn
      obtain ⟨t, a, R9, rfl, h1, h2, h3, h4⟩ := h
      exact xs_astore C hd h1 h2 h3 h4
    | astore_n k =>
      have hn : n = 1 := hn
      subst hn
      obtain ⟨t, a, R9, rfl, h1, h2, h3, h4⟩ := h
      exact xs_astore_n C hd h1 h2 h3 h4
    | iinc k q =>
      have hn : n = 3 := hn
      subst hn
      obtain ⟨z, h1, h2, h3⟩ := h
      exact xs_iinc C hd h1 h2 h3
    | iadd =>
      have hn : n = 1 := hn
      subst hn
      obtain ⟨x, y, R9, rfl, h1⟩ := h
      exact xs_iadd C hd h1
    | isub =>
      have hn : n = 1 := hn
      subst hn
      obtain ⟨x, y, R9, rfl, h1⟩ := h
      exact xs_isub C hd h1
    | imul =>
      have hn : n = 1 := hn
      subst hn
      obtain ⟨x, y, R9, rfl, h1⟩ := h
      exact xs_imul C hd h1
    | iand =>
      have hn : n = 1 := hn
      subst hn
      obtain ⟨x, y, R9, rfl, h1⟩ := h
      exact xs_iand C hd h1
    | ior =>
      have hn : n = 1 := hn
      subst hn
      obtain ⟨x, y, R9, rfl, h1⟩ := h
      exact xs_ior C hd h1
    | ixor =>
      have hn : n = 1 := hn
      subst hn
      obtain ⟨x, y, R9, rfl, h1⟩ := h
      exact xs_ixor C hd h1
    | ishl =>
      have hn : n = 1 := hn
      subst hn
      obtain ⟨x, y, R9, rfl, h1⟩ := h
      exact xs_ishl C hd h1
    | ishr =>
      have hn : n = 1 := hn
      subst hn
      obtain ⟨x, y, R9, rfl, h1⟩ := h
      exact xs_ishr C hd h1
    | iushr =>
      have hn : n = 1 := hn
      subst hn
      obtain ⟨x, y, R9, rfl, h1⟩ := h
      exact xs_iushr C hd h1
    | ladd =>
      have hn : n = 1 := hn
      subst hn
      obtain ⟨x, y, R9, rfl, h1⟩ := h
      exact xs_ladd C hd h1
    | lsub =>
      have hn : n = 1 := hn
      subst hn
      obtain ⟨x, y, R9, rfl, h1⟩ := h
      exact xs_lsub C hd h1
    | lmul =>
      have hn : n = 1 := hn
      subst hn
      obtain ⟨x, y, R9, rfl, h1⟩ := h
      exact xs_lmul C hd h1
    | land =>
      have hn : n = 1 := hn
      subst hn
      obtain ⟨x, y, R9, rfl, h1⟩ := h
      exact xs_land C hd h1
    | lor =>
      have hn : n = 1 := hn
      subst hn
      obtain ⟨x, y, R9, rfl, h1⟩ := h
      exact xs_lor C hd h1
    | lshl =>
      have hn : n = 1 := hn
      subst hn
      obtain ⟨x, y, R9, rfl, h1⟩ := h
      exact xs_lshl C hd h1
    | lshr =>
      have hn : n = 1 := hn
      subst hn
      obtain ⟨x, y, R9, rfl, h1⟩ := h
      exact xs_lshr C hd h1
    | lcmp =>
      have hn : n = 1 := hn
      subst hn
      obtain ⟨x, y, R9, rfl, h1⟩ := h
      exact xs_lcmp C hd h1
    | idiv =>
      have hn : n = 1 := hn
      subst hn
      obtain ⟨x, y, R9, rfl, h0, h1⟩ := h
      exact xs_idiv C hd h0 h1
    | irem =>
      have hn : n = 1 := hn
      subst hn
      obtain ⟨x, y, R9, rfl, h0, h1⟩ := h
      exact xs_irem C hd h0 h1
    | ldiv =>
      have hn : n = 1 := hn
      subst hn
      obtain ⟨x, y, R9, rfl, h0, h1⟩ := h
      exact xs_ldiv C hd h0 h1
    | lrem =>
      have hn : n = 1 := hn
      subst hn
      obtain ⟨x, y, R9, rfl, h0, h1⟩ := h
      exact xs_lrem C hd h0 h1
    | ineg =>
      have hn : n = 1 := hn
      subst hn
      obtain ⟨x, R9, rfl, h1⟩ := h
      exact xs_ineg C hd h1
    | lneg =>
      have hn : n = 1 := hn
      subst hn
      obtain ⟨x, R9, rfl, h1⟩ := h
      exact xs_lneg C hd h1
    | i2l =>
      have hn : n = 1 := hn
      subst hn
      obtain ⟨x, R9, rfl, h1⟩ := h
      exact xs_i2l C hd h1
    | l2i =>
      have hn : n = 1 := hn
      subst hn
      obtain ⟨x, R9, rfl, h1⟩ := h
      exact xs_l2i C hd h1
    | i2b =>
      have hn : n = 1 := hn
      subst hn
      obtain ⟨x, R9, rfl, h1⟩ := h
      exact xs_i2b C hd h1
    | i2s =>
      have hn : n = 1 := hn
      subst hn
      obtain ⟨x, R9, rfl, h1⟩ := h
      exact xs_i2s C hd h1
    | i2c =>
      have hn : n = 1 := hn
      subst hn
      obtain ⟨x, R9, rfl, h0, h1, h2⟩ := h
      exact xs_i2c C hd h0 h1 h2
    | dup =>
      have hn : n = 1 := hn
      subst hn
      obtain ⟨v, R9, rfl, h0, -, h1⟩ := h
      exact xs_dup C hd h0 h1
    | dup2 =>
      have hn : n = 1 := hn
      subst hn
      rcases h with ⟨v, u, R9, rfl, h1, h2, -, -, h3⟩ | ⟨z, R9, rfl, h3⟩
      · exact xs_dup2 C hd h1 h2 h3
      · exact xs_dup2l C hd h3
    | pop =>
      have hn : n = 1 := hn
      subst hn
      obtain ⟨x, R9, rfl, h1⟩ := h
      exact xs_pop C hd h1
    | pop2 =>
      have hn : n = 1 := hn
      subst hn
      rcases h with ⟨v, u, R9, rfl, h1, h2, -, -, h3⟩ | ⟨z, R9, rfl, h3⟩
      · exact xs_pop2 C hd h1 h2 h3
      · exact xs_pop2l C hd h3
    | goto off =>
      have hn : n = 3 := hn
      subst hn
      exact xs_goto C hd h.1 h.2
    | ifCond cn off =>
      have hn : n = 3 := hn
      subst hn
      obtain ⟨h0, x, R9, rfl, h1⟩ := h
      cases cn with
      | eq => exact xs_if_eq C hd h0 h1
      | ne => exact xs_if_ne C hd h0 h1
      | lt => exact xs_if_lt C hd h0 h1
      | ge => exact xs_if_ge C hd h0 h1
      | gt => exact xs_if_gt C hd h0 h1
      | le => exact xs_if_le C hd h0 h1
    | if_icmp cn off =>
      have hn : n = 3 := hn
      subst hn
      obtain ⟨h0, x, y, R9, rfl, h1⟩ := h
      cases cn with
      | eq => exact xs_icmp_eq C hd h0 h1
      | ne => exact xs_icmp_ne C hd h0 h1
      | lt => exact xs_icmp_lt C hd h0 h1
      | ge => exact xs_icmp_ge C hd h0 h1
      | gt => exact xs_icmp_gt C hd h0 h1
      | le => exact xs_icmp_le C hd h0 h1
    | tableswitch dflt lo hi offs =>
      obtain ⟨z, R9, rfl, h1, h2⟩ := h
      exact xs_tsw C hd h1 h2
    | getfield k =>
      have hn : n = 3 := hn
      subst hn
      rcases h with ⟨ci, f, a, R9, rfl, h1, h2⟩ | ⟨a, R9, rfl, ho, ha, ⟨rfl, h1⟩ | ⟨rfl, h1⟩⟩
      · exact xs_getf C hd h1 h2
      · exact xs_getfV C hd ho ha h1
      · exact xs_getfC C hd ho ha h1
    | putfield k =>
      have hn : n = 3 := hn
      subst hn
      obtain ⟨ci, f, a, v, R9, rfl, h1, h2, h3⟩ := h
      exact xs_putf C hd h1 h2 h3
    | getstatic k =>
      have hn : n = 3 := hn
      subst hn
      rcases h with ⟨ho, rfl, h1⟩ | ⟨ho, rfl, h1⟩ | ⟨ho, rfl, h1⟩
      · exact xs_getsP C hd ho h1
      · exact xs_getsC C hd ho h1
      · exact xs_getsF C hd ho h1
    | arraylength =>
      have hn : n = 1 := hn
      subst hn
      obtain ⟨t, a, R9, rfl, ⟨h1, h2⟩ | ⟨rfl, h1, h2⟩⟩ := h
      · by_cases h6 : t = 6000025
        · subst h6
          intro hn hL hS
          have ha : a = 3000 := by
            rcases (ok_r (t := 6000025) (by decide)).mp (okh hS) with q | q | q | q | q
            · exact absurd q.2 (by
                intro q2
                rcases ty_kind a q.1 with z | ⟨z1, z2, z3⟩ <;> omega)
            · omega
            · omega
            · exact q.2
            · omega
          subst ha
          exact xs_alenP C hd h2 hn hL hS
        · exact xs_alenA C hd h1 h6 h2
      · exact xs_alenB C hd h2
    | iaload =>
      have hn : n = 1 := hn
      subst hn
      obtain ⟨j, t, a, R9, rfl, ⟨h1, h2, h3⟩ | ⟨rfl, h2, h3⟩⟩ := h
      · exact xs_iald C hd h1 h2 h3
      · exact xs_ialdP C hd h2 h3
    | laload =>
      have hn : n = 1 := hn
      subst hn
      obtain ⟨j, t, a, R9, rfl, h1, h2, h3⟩ := h
      exact xs_lald C hd h1 h2 h3
    | baload =>
      have hn : n = 1 := hn
      subst hn
      obtain ⟨j, t, a, R9, rfl, ⟨h1, h2, h3⟩ | ⟨rfl, h1, h2, h3⟩⟩ := h
      · exact xs_zald C hd h1 h2 h3
      · exact xs_baldB C hd h2 h3
    | aaload =>
      have hn : n = 1 := hn
      subst hn
      obtain ⟨j, t, a, R9, rfl, ⟨rfl, h2, h3⟩ | ⟨rfl, h2, h3⟩⟩ := h
      · exact xs_aaldT C hd h2 h3
      · exact xs_aaldR C hd h2 h3
    | iastore =>
      have hn : n = 1 := hn
      subst hn
      obtain ⟨z, j, t, a, R9, rfl, h1, h2, h3⟩ := h
      exact xs_iast C hd h1 h2 h3
    | lastore =>
      have hn : n = 1 := hn
      subst hn
      obtain ⟨z, j, t, a, R9, rfl, h1, h2, h3⟩ := h
      exact xs_last C hd h1 h2 h3
    | bastore =>
      have hn : n = 1 := hn
      subst hn
      obtain ⟨z, j, t, a, R9, rfl, h1, h2, h4, h3⟩ := h
      exact xs_zast C hd h1 h2 h4 h3
    | ireturn =>
      have hn : n = 1 := hn
      subst hn
      obtain ⟨z, rfl, h1, h2⟩ := h
      exact xs_ireturn C hd h1 h2
    | lreturn =>
      have hn : n = 1 := hn
      subst hn
      obtain ⟨z, rfl, h1, h2⟩ := h
      subst h1
      exact xs_lreturn C hd h2
    | areturn =>
      have hn : n = 1 := hn
      subst hn
      obtain ⟨t, a, rfl, h1, h2, ⟨cn, h3⟩, h4⟩ := h
      subst h3
      exact xs_areturn C hd h1 h2 h4
    | return_ =>
      have hn : n = 1 := hn
      subst hn
      obtain ⟨rfl, h1, h2⟩ := h
      subst h1
      exact xs_return C hd h2
    | invokevirtual k =>
      have hn : n = 3 := hn
      subst hn
      obtain ⟨y, na, As, t, a, R9, h1, rfl, h2, h3, h4, h5⟩ := h
      rcases h5 with ⟨v, σ', g1, g2⟩ | ⟨E, σ', g1, g2⟩
      · exact xs_callV C hd h1 h2 h3 hR h4 g1 (fun vs hv => by cases hv; exact g2) (fun E hE => by cases hE)
      · exact xs_callV C hd h1 h2 h3 hR h4 g1 (fun vs hv => by cases hv) (fun E hE => by cases hE; exact g2)
    | invokestatic k =>
      have hn : n = 3 := hn
      subst hn
      rcases h with ⟨y, na, As, R9, h1, rfl, h2, h3, h5⟩ | ⟨nn, dp, t2, b, sp, t1, a, R9, h1, rfl, h2, h3, g1, g2, g3, g4, g5, g6⟩ | ⟨op, R9, h1, h2, ⟨x, y, rfl, rfl, h3⟩ | ⟨x, y, rfl, rfl, h3⟩ | ⟨x, y, rfl, rfl, h3⟩ | ⟨x, rfl, rfl, h3⟩⟩
      · rcases h5 with ⟨v, σ', g1, g2⟩ | ⟨E, σ', g1, g2⟩
        · exact xs_callS C hd h1 h2 h3 hR g1 (fun vs hv => by cases hv; exact g2) (fun E hE => by cases hE)
        · exact xs_callS C hd h1 h2 h3 hR g1 (fun vs hv => by cases hv) (fun E hE => by cases hE; exact g2)
      · rcases h3 with ⟨q1, q2⟩ | ⟨q1, q2⟩
        · exact xs_cpyI C hd h1 h2 q1 q2 g1 g2 g3 g4 g5 hR2 g6
        · exact xs_cpyL C hd h1 h2 q1 q2 g1 g2 g3 g4 g5 hR2 g6
      · exact xs_mmax C hd h1 h2 hR h3
      · exact xs_mmin C hd h1 h2 hR h3
      · exact xs_lmax C hd h1 h2 hR h3
      · exact xs_labs C hd h1 h2 hR h3
    | _ => exact h.elim
  · subst ho
    exact xs_throw C h1 h4 hR d0 d3 dd h
  · intro hn hL hS hO H locs ls hP hSS hl
    exact h (by rw [← wkr_len hw]; exact hn) (wkr_ok hw hL) hS hO H locs ls hP hSS ⟨hl.1, hl.2.1, fun j hj => by
      rcases wkr_lg hw j with q | q
      · rw [q] at hj ⊢; exact hl.2.2 j hj
      · rw [q] at hj; exact absurd rfl hj⟩
end CLO
/-- the locals at a method's entry -/
def ent : List Vv → List Vv
  | [] => []
  | v :: l => if v.1 = 1 then v :: uV :: ent l else v :: ent l
def endK (r : Rs) (σ' : Sg) (Xr : List Vv → Sg → Prop) (Xt : Nat → Sg → Prop) : Prop := match r with
  | .inl vs => Xr vs σ'
  | .inr E => Xt E σ'
theorem ent_ok : ∀ {As : List Vv}, okL As → okL (ent As) := by
  intro As
  induction As with
  | nil => intro h; exact h
  | cons v l ih =>
    intro h
    unfold ent
    split
    · exact okc (okh h) (okc trivial (ih (okt h)))
    · exact okc (okh h) (ih (okt h))
theorem lg_app : ∀ {a b : List Vv} {j : Nat}, lg (a ++ b) j = if j < a.length then lg a j else lg b (j - a.length) := by
  intro a
  induction a with
  | nil => intro b j; simp
  | cons v a ih =>
    intro b j
    cases j with
    | zero => simp [lg]
    | succ j => simp [lg, ih]
theorem lg_rep : ∀ {n j : Nat}, lg (List.replicate n uV) j = uV := by
  intro n
  induction n with
  | zero => intro j; rfl
  | succ n ih =>
    intro j
    cases j with
    | zero => rfl
    | succ j => exact ih
theorem okL_rep {n : Nat} : okL (List.replicate n uV) := fun v hv => by
  rw [(List.mem_replicate.mp hv).2]
  trivial
theorem ent_cons (v : Vv) (l : List Vv) : ent (v :: l) = if v.1 = 1 then v :: uV :: ent l else v :: ent l := rfl
theorem ent_args {K : KT} (hK : K.2.2.2 = .null ∨ ∃ a, K.2.2.2 = .ref a) : ∀ (As : List Vv) (i j : Nat), (lg (ent As) j).1 ≠ 9 → (i + j, cv K (lg (ent As) j)) ∈ lv_args i (As.map (cv K)) := by
  intro As
  induction As with
  | nil => intro i j h; exact absurd rfl h
  | cons v l ih =>
    intro i j h
    rw [List.map_cons]
    unfold lv_args
    rw [cv_cat hK]
    rw [ent_cons] at h ⊢
    unfold catV
    by_cases h1 : v.1 = 1
    · rw [if_pos h1] at h ⊢
      rw [if_pos h1, if_pos rfl]
      match j with
      | 0 => exact List.mem_cons_self
      | 1 => exact absurd rfl h
      | j + 2 =>
        refine List.mem_cons_of_mem _ ?_
        have := ih (i + 2) j h
        rw [show i + (j + 2) = i + 2 + j by omega]
        exact this
    · rw [if_neg h1] at h ⊢
      rw [if_neg h1, if_neg (by decide)]
      match j with
      | 0 => exact List.mem_cons_self
      | j + 1 =>
        refine List.mem_cons_of_mem _ ?_
        have := ih (i + 1) j h
        rw [show i + (j + 1) = i + 1 + j by omega]
        exact this
theorem ent_len {K : KT} (hK : K.2.2.2 = .null ∨ ∃ a, K.2.2.2 = .ref a) : ∀ (As : List Vv), (lg_sl (As.map (cv K))).length = (ent As).length := by
  intro As
  induction As with
  | nil => rfl
  | cons v l ih =>
    unfold lg_sl at *
    rw [List.map_cons, List.flatMap_cons, List.length_append, ih, cv_cat hK, ent_cons]
    unfold catV
    by_cases h1 : v.1 = 1
    · rw [if_pos h1, if_pos rfl, if_pos h1]; simp; omega
    · rw [if_neg h1, if_neg (by decide), if_neg h1]; simp; omega
theorem WD_all {K : KT} {A : Nat → Prop} {σ : Sg} (h : va_D A (WS K σ)) (τ : Sg) : va_D A (WS K τ) := by
  refine ⟨fun i j p q hi hj e => ?_, fun k q hk => ?_⟩
  · obtain ⟨h1, h2⟩ := WS_inv hi
    obtain ⟨h3, h4⟩ := WS_inv hj
    rw [h2, h4] at e
    exact h.1 i j _ _ (WS_getN K σ h1) (WS_getN K σ h3) e
  · obtain ⟨h1, h2⟩ := WS_inv hk
    rw [h2]
    exact h.2 k (K.2.2.1 k, cellE K σ k) (WS_getN K σ h1)
theorem pl_ok : ∀ y, y < NM → plainName (mY y).cls = true := by decide +kernel
/-- A CONTRACT out of the rules: whatever the instructions lead along holds at the entry -/
theorem mk_Ct {d y own : Nat} {As : List Vv} {σ σ' : Sg} {r : Rs} (hy : y < NM) (hown : (mY y).cls = ownN own) (hlen : (ent As).length ≤ mL y)
    (h : ∀ (X : Nat → List Vv → List Vv → Sg → Prop) (Xr : List Vv → Sg → Prop) (Xt : Nat → Sg → Prop), Clo (Ct d) own (mC y) (mR y) X Xr Xt → endK r σ' Xr Xt → X 0 (ent As ++ List.replicate (mL y - (ent As).length) uV) [] σ) : Ct (d + 1) y As σ r σ' := by
  intro hok hS
  refine ⟨d + 1, Nat.le_refl _, fun l K sz hst => ?_⟩
  refine vx_ofW (cc := mC y) (maxL := mL y) (ret := mR y) (pl_ok y hy) rfl ?_
  intro p e s m args below meth c s₁ B hml hnt hv
  obtain ⟨rfl, hsz, hP, hK, hD, hE⟩ := hv
  subst hsz
  have hts0 := atoms_spec (ws := wM y) B.pre
  have hKn := hE.2.2.2.2.2.2.2.1
  have hle : (lg_sl (As.map (cv K))).length ≤ mL y := by rw [ent_len hKn]; exact hlen
  have hl := lv_entry (As.map (cv K)) hle
  rw [lg_entry_eq]
  have C : Cx p l s m (As.map (cv K)).toArray meth c K (AA K s.heap.size) (mL y) own (mC y) (mR y) True :=
    ⟨B.exec, B.bytes, hml, by rw [← hown]; exact findClass_of_methodNamed B.named, fun w hw => hts0 w (List.mem_cons_of_mem _ hw), hK, WD_all hD, hE, rfl, B.notSynchronized, B.returns, hst, fun _ => hnt⟩
  have hX := h _ _ _ (clo_XM (below := below) (e := e) (d := d) (res := r) (σf := σ') C (R := rmO (d + 1) r) rfl) (by cases r <;> exact ⟨rfl, rfl⟩)
  refine hX (by rw [List.length_append, List.length_replicate]; omega) (okL_app (ent_ok hok) okL_rep) (fun v hv => nomatch hv) hS s.heap [] _ hP va_S.rf ⟨hl.1, hl.2.1, fun j hj => ?_⟩
  rw [lg_app] at hj ⊢
  by_cases hj2 : j < (ent As).length
  · rw [if_pos hj2] at hj ⊢
    have h9 := ent_args (K := K) hKn As 0 j hj
    rw [Nat.zero_add] at h9
    exact hl.2.2 _ h9
  · rw [if_neg hj2, lg_rep] at hj
    exact absurd rfl hj
