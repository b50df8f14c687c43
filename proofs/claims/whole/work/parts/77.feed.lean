/-! PAIR: feed -/
theorem ups_comm {σ : Sg} {a b i j : Nat} {v w : Int} (h : a ≠ b) : upS (upS σ a i v) b j w = upS (upS σ b j w) a i v := by
  funext c k
  unfold upS
  by_cases q : c = a ∧ k = i
  · rw [if_neg (show ¬ (c = b ∧ k = j) by omega), if_pos q, if_pos q]
  · rw [if_neg q, if_neg q]
theorem iand_255 (y : Int) : 0 ≤ iandI y 255 ∧ iandI y 255 ≤ 255 := by
  unfold iandI
  have h : ((Int32.ofInt y &&& Int32.ofInt 255).toBitVec).toNat ≤ 255 := by
    rw [Int32.toBitVec_and, BitVec.toNat_and]
    exact Nat.le_trans Nat.and_le_right (by decide)
  show 0 ≤ ((Int32.ofInt y &&& Int32.ofInt 255).toBitVec).toInt ∧ ((Int32.ofInt y &&& Int32.ofInt 255).toBitVec).toInt ≤ 255
  generalize (Int32.ofInt y &&& Int32.ofInt 255).toBitVec = z at h
  rw [BitVec.toInt_eq_toNat_cond, if_pos (by omega)]
  omega
def byV (w : Int) (s : Int) : Int := iandI (iushrI w s) 255
def ldS (σ : Sg) (a b c n k : Nat) (F : Nat → Int) : Sg := upS (soS σ a n k F) b c ((n + k : Nat) : Int)
theorem ldS_0 {σ : Sg} {a b c n : Nat} {F : Nat → Int} (h : σ b c = (n : Int)) : ldS σ a b c n 0 F = σ := by
  unfold ldS
  rw [soS_0]
  funext d j
  unfold upS
  by_cases q : d = b ∧ j = c
  · rw [if_pos q, q.1, q.2, h]; rfl
  · rw [if_neg q]
theorem ldS_n {σ : Sg} {a b c n k : Nat} {F : Nat → Int} : ldS σ a b c n k F b c = ((n + k : Nat) : Int) := ups_eq
theorem ldS_s {σ : Sg} {a b c n k : Nat} {F : Nat → Int} (h : a ≠ b) : upS (upS (ldS σ a b c n k F) a (n + k) (F k)) b c ((n + k + 1 : Nat) : Int) = ldS σ a b c n (k + 1) F := by
  unfold ldS
  rw [ups_comm (Ne.symm h), ups_ups, soS_s]
  rfl
theorem ldS_cell {σ : Sg} {a b c n k d : Nat} {F : Nat → Int} (h1 : d ≠ a) (h2 : d ≠ b) : ldS σ a b c n k F d = σ d := by
  unfold ldS
  rw [ups_cell h2, soS_cell h1]
theorem ldS_oth {σ : Sg} {a b c n k j : Nat} {F : Nat → Int} (h : a ≠ b) (h1 : j ≠ c) : ldS σ a b c n k F b j = σ b j := by
  unfold ldS
  rw [ups_ne (Or.inr h1), soS_cell (Ne.symm h)]
theorem lay_st {C : Nat → List Vv → Sg → Rs → Sg → Prop} {X : Nat → List Vv → List Vv → Sg → Prop} {Xr : List Vv → Sg → Prop} {Xt : Nat → Sg → Prop} (hC : Clo C 10 cX10_lay none X Xr Xt) {σ : Sg} {n k : Nat} {F : Nat → Int} {w s s2 : Int} (hk : n + k < 700) (hs : 0 ≤ s) (hF : F k = byV w s) (e2 : w32 (s + -8) = s2) (ih : X 3 [rV 19 0, iV w, iV s2] [] (ldS σ 6 0 1 n (k + 1) F)) : X 3 [rV 19 0, iV w, iV s] [] (ldS σ 6 0 1 n k F) := by
  refine bX10_lay_3 hC ?_
  rw [if_neg (by omega), ldS_n, if_pos (by omega), Int.toNat_natCast, ups_cell (show (0 : Nat) ≠ 6 by decide), ldS_n, w32_s (by omega), e2]
  have : byV w s = iandI (iushrI w s) 255 := rfl
  rw [← this, ← hF, ldS_s (by decide)]
  exact ⟨by omega, ih⟩
theorem ctX10_lay {d n k : Nat} {w : Int} {F : Nat → Int} {σ : Sg} (hd : 1 ≤ d) (hk : n + k + 4 ≤ 700) (h0 : F k = byV w 24) (h1 : F (k + 1) = byV w 16) (h2 : F (k + 2) = byV w 8) (h3 : F (k + 3) = byV w 0) : Ct d MX10_lay [rV 19 0, iV w] (ldS σ 6 0 1 n k F) (.inl []) (ldS σ 6 0 1 n (k + 4) F) := by
  refine (eX10_lay (d := 0) ?_).mono hd
  intro X Xr Xt hC hr
  refine bX10_lay_0 hC ?_
  refine lay_st hC (by omega) (by decide) h0 (s2 := 16) (by decide) ?_
  refine lay_st hC (by omega) (by decide) h1 (s2 := 8) (by decide) ?_
  refine lay_st hC (by omega) (by decide) h2 (s2 := 0) (by decide) ?_
  refine lay_st hC (by omega) (by decide) h3 (s2 := -8) (by decide) ?_
  refine bX10_lay_3 hC ?_
  rw [if_pos (by decide)]
  exact hr
def fdF (a b c d e : Int) (k : Nat) : Int := byV (if k < 4 then a else if k < 8 then b else if k < 12 then c else if k < 16 then d else e) (((24 - 8 * (k % 4) : Nat) : Nat) : Int)
theorem fd_sh : ∀ k : Fin 20, w32 (24 - w32 (8 * iandI ((k.val : Nat) : Int) 3)) = ((24 - 8 * (k.val % 4) : Nat) : Int) := by decide
theorem Inv_feed {ω : Nat → Int} {σ σ2 : Sg} {n : Nat} {F : Nat → Int} (hI : Inv ω σ) (hn : σ 0 1 = (n : Int)) (hn2 : n + 20 ≤ 700) (hF : ∀ j, 0 ≤ F j ∧ F j ≤ 255) (e : ∀ a, a ≠ 0 → a ≠ 6 → a ≠ 66 → a ≠ 72 → a ≠ 88 → σ2 a = σ a) (e0 : ∀ k, k ≠ 1 → σ2 0 k = σ 0 k) (e66 : ∀ k, k ≠ 5 → k ≠ 7 → σ2 66 k = σ 66 k) (f0 : σ2 0 1 = ((n + 20 : Nat) : Int)) (f7 : σ2 66 7 = ((n + 20 : Nat) : Int)) (g6 : ∀ j, j < 20 → σ2 6 (n + j) = F j) (g72 : ∀ j, j < 20 → σ2 72 (n + j) = F j) (o6 : ∀ j, j < n → σ2 6 j = σ 6 j) (o72 : ∀ j, j < n → σ2 72 j = σ 72 j) : Inv ω σ2 := by
  obtain ⟨⟨N, hQ⟩, h2, ⟨m, p1, p2, p3, p4, p5, p6⟩, h4, h5⟩ := hI
  have hm : m = n := by rw [hn] at p2; omega
  subst hm
  refine ⟨⟨N, InvN_e hQ (fun a h1 h2 => e a (by omega) (by omega) (by omega) (by omega) (by omega)) (e 67 (by decide) (by decide) (by decide) (by decide) (by decide))⟩, InvI_e h2 (fun a h1 h2 => e a (by omega) (by omega) (by omega) (by omega) (by omega)) (e 70 (by decide) (by decide) (by decide) (by decide) (by decide)) (e 71 (by decide) (by decide) (by decide) (by decide) (by decide)), ⟨m + 20, hn2, f0, f7, ?_, ?_, ?_⟩, InvY_e h4 (fun a h1 h2 => e a (by omega) (by omega) (by omega) (by omega) (by omega)) (e 77 (by decide) (by decide) (by decide) (by decide) (by decide)) (e 78 (by decide) (by decide) (by decide) (by decide) (by decide)) (e 79 (by decide) (by decide) (by decide) (by decide) (by decide)), ?_⟩
  · intro j hj
    by_cases q : j < m
    · rw [o6 j q, o72 j q]; exact p4 j q
    · have a1 := g6 (j - m) (by omega)
      have a2 := g72 (j - m) (by omega)
      rw [show m + (j - m) = j by omega] at a1 a2
      rw [a1, a2]
      exact ⟨rfl, hF _⟩
  · rw [e0 2 (by decide), e66 15 (by decide) (by decide)]; exact p5
  · rw [e0 3 (by decide), e66 16 (by decide) (by decide)]; exact p6
  · rw [e 62 (by decide) (by decide) (by decide) (by decide) (by decide)]; exact h5
theorem jn_feed {ω : Nat → Int} {σ : Sg} (hI : Inv ω σ) (a b c d e : Int) : Jn ω MX10_feed MX11_feed [iV a, iV b, iV c, iV d, iV e] iV σ := by
  obtain ⟨n, p1, p2, p3, p4, p5, p6⟩ := hI.2.2.1
  have hf : Fr σ (upS σ 66 5 0) := (Fr.refl σ).ups66 (by decide) (by decide) (by decide)
  have e20 : w32 ((n : Int) + 20) = ((n + 20 : Nat) : Int) := by clear p2 p3 p4 p5 p6 hf; unfold w32; omega
  by_cases h : 700 < n + 20
  · refine ⟨-1, σ, ?_, upS σ 66 5 0, ?_, Inv_fr hI hf⟩
    · refine (eX10_feed (d := 4) ?_).mono (by decide)
      intro X Xr Xt hC hr
      refine bX10_feed_0 hC ?_
      rw [p2, e20, if_pos (by omega)]
      exact hr
    · refine (eX11_feed (d := 4) ?_).mono (by decide)
      intro X Xr Xt hC hr
      refine bX11_feed_0 hC ?_
      rw [hf.2.1, p3, e20, if_pos (by omega)]
      exact hr
  · obtain ⟨F, hF⟩ : ∃ F, F = fdF a b c d e := ⟨_, rfl⟩
    have q0 : ∀ w, F 0 = byV a 24 ∧ F 1 = byV a 16 ∧ F 2 = byV a 8 ∧ F 3 = byV a 0 ∧ w = w := fun w => by rw [hF]; exact ⟨rfl, rfl, rfl, rfl, (rfl : (w : Nat) = w)⟩
    have q0 := q0 0
    have q1 : F 4 = byV b 24 ∧ F 5 = byV b 16 ∧ F 6 = byV b 8 ∧ F 7 = byV b 0 := by rw [hF]; exact ⟨rfl, rfl, rfl, rfl⟩
    have q2 : F 8 = byV c 24 ∧ F 9 = byV c 16 ∧ F 10 = byV c 8 ∧ F 11 = byV c 0 := by rw [hF]; exact ⟨rfl, rfl, rfl, rfl⟩
    have q3 : F 12 = byV d 24 ∧ F 13 = byV d 16 ∧ F 14 = byV d 8 ∧ F 15 = byV d 0 := by rw [hF]; exact ⟨rfl, rfl, rfl, rfl⟩
    have q4 : F 16 = byV e 24 ∧ F 17 = byV e 16 ∧ F 18 = byV e 8 ∧ F 19 = byV e 0 := by rw [hF]; exact ⟨rfl, rfl, rfl, rfl⟩
    have hbd : ∀ j, 0 ≤ F j ∧ F j ≤ 255 := fun j => by rw [hF]; exact iand_255 _
    obtain ⟨σ1, hσ1⟩ : ∃ σ1, σ1 = ldS σ 6 0 1 n 20 F := ⟨_, rfl⟩
    have s7 : upS σ1 66 5 0 66 7 = (n : Int) := by rw [ups_ne (Or.inr (by decide)), hσ1, ldS_cell (by decide) (by decide)]; exact p3
    refine ⟨((n + 20 : Nat) : Int), σ1, ?_, ldS (upS σ1 66 5 0) 72 66 7 n 20 F, ?_, Inv_feed (F := F) hI p2 (by omega) hbd ?_ ?_ ?_ ?_ ldS_n ?_ ?_ ?_ ?_⟩
    · refine (eX10_feed (d := 4) ?_).mono (by decide)
      intro X Xr Xt hC hr
      refine bX10_feed_0 hC ?_
      rw [p2, e20, if_neg (by omega)]
      have l0 := ctX10_lay (d := 4) (σ := σ) (n := n) (k := 0) (F := F) (w := a) (by decide) (by omega) q0.1 q0.2.1 q0.2.2.1 q0.2.2.2.1
      rw [ldS_0 p2] at l0
      refine ⟨_, l0, _, ctX10_lay (k := 4) (by decide) (by omega) q1.1 q1.2.1 q1.2.2.1 q1.2.2.2, _, ctX10_lay (k := 8) (by decide) (by omega) q2.1 q2.2.1 q2.2.2.1 q2.2.2.2, _, ctX10_lay (k := 12) (by decide) (by omega) q3.1 q3.2.1 q3.2.2.1 q3.2.2.2, _, ctX10_lay (k := 16) (by decide) (by omega) q4.1 q4.2.1 q4.2.2.1 q4.2.2.2, ?_⟩
      show Xr [iV (ldS σ 6 0 1 n 20 F 0 1)] (ldS σ 6 0 1 n 20 F)
      rw [ldS_n, ← hσ1]
      exact hr
    · clear hσ1
      refine (eX11_feed (d := 4) ?_).mono (by decide)
      intro X Xr Xt hC hr
      refine bX11_feed_0 hC ?_
      rw [s7, e20, if_neg (by omega)]
      have stp : ∀ k : Nat, k < 20 → ∀ w : Int, F k = byV w ((24 - 8 * (k % 4) : Nat) : Int) → X 23 [rV 20 66, iV a, iV b, iV c, iV d, iV e, iV ((k + 1 : Nat) : Int), uV] [] (ldS (upS σ1 66 5 0) 72 66 7 n (k + 1) F) → ((0 ≤ (ldS (upS σ1 66 5 0) 72 66 7 n k F 66 7) ∧ (ldS (upS σ1 66 5 0) 72 66 7 n k F 66 7) < 700) ∧ (X 23 [rV 20 66, iV a, iV b, iV c, iV d, iV e, iV (w32 ((k : Int) + 1)), uV] [] (upS (upS (ldS (upS σ1 66 5 0) 72 66 7 n k F) 72 ((ldS (upS σ1 66 5 0) 72 66 7 n k F 66 7)).toNat (iandI (iushrI w (w32 (24 - (w32 (8 * (iandI (k : Int) 3)))))) 255)) 66 7 (w32 (((upS (ldS (upS σ1 66 5 0) 72 66 7 n k F) 72 ((ldS (upS σ1 66 5 0) 72 66 7 n k F 66 7)).toNat (iandI (iushrI w (w32 (24 - (w32 (8 * (iandI (k : Int) 3)))))) 255)) 66 7) + 1))))) := by
        intro k hk w hw hx
        rw [ldS_n, ups_cell (show (66 : Nat) ≠ 72 by decide), ldS_n, Int.toNat_natCast, fd_sh ⟨k, hk⟩, w32_s (show n + k < 2147483647 by omega), w32_s (show k < 2147483647 by omega)]
        have e3 : byV w ((24 - 8 * (k % 4) : Nat) : Int) = iandI (iushrI w ((24 - 8 * (k % 4) : Nat) : Int)) 255 := rfl
        rw [← e3, ← hw, ldS_s (by decide)]
        exact ⟨by omega, hx⟩
      have key : ∀ k : Nat, k ≤ 20 → X 23 [rV 20 66, iV a, iV b, iV c, iV d, iV e, iV (k : Int), uV] [] (ldS (upS σ1 66 5 0) 72 66 7 n k F) := by
        refine loop_up (P := fun k : Nat => X 23 [rV 20 66, iV a, iV b, iV c, iV d, iV e, iV (k : Int), uV] [] (ldS (upS σ1 66 5 0) 72 66 7 n k F)) ?_ ?_
        · refine bX11_feed_23 hC ?_
          rw [if_neg (by decide), ldS_n]
          exact hr
        · intro k hk ih
          refine bX11_feed_23 hC ?_
          have hFk : F k = fdF a b c d e k := by rw [hF]
          unfold fdF at hFk
          rw [if_pos (by omega)]
          by_cases z1 : k < 4
          · rw [if_pos z1] at hFk
            rw [if_pos (by omega)]
            exact stp k hk a hFk ih
          rw [if_neg z1] at hFk
          rw [if_neg (by omega)]
          by_cases z2 : k < 8
          · rw [if_pos z2] at hFk
            rw [if_pos (by omega)]
            exact stp k hk b hFk ih
          rw [if_neg z2] at hFk
          rw [if_neg (by omega)]
          by_cases z3 : k < 12
          · rw [if_pos z3] at hFk
            rw [if_pos (by omega)]
            exact stp k hk c hFk ih
          rw [if_neg z3] at hFk
          rw [if_neg (by omega)]
          by_cases z4 : k < 16
          · rw [if_pos z4] at hFk
            rw [if_pos (by omega)]
            exact stp k hk d hFk ih
          rw [if_neg z4] at hFk
          rw [if_neg (by omega)]
          exact stp k hk e hFk ih
      have := key 0 (Nat.zero_le _)
      rw [ldS_0 s7] at this
      exact this
    · intro z h0 h6 h66 h72 h80
      rw [ldS_cell h72 h66, ups_cell h66, hσ1, ldS_cell h6 h0]
    · intro k hk
      rw [ldS_cell (by decide) (by decide), ups_cell (by decide), hσ1, ldS_oth (by decide) hk]
    · intro k h5 h7
      rw [ldS_oth (by decide) h7, ups_ne (Or.inr h5), hσ1, ldS_cell (by decide) (by decide)]
    · rw [ldS_cell (by decide) (by decide), ups_cell (by decide), hσ1, ldS_n]
    · intro j hj
      rw [ldS_cell (by decide) (by decide), ups_cell (by decide), hσ1]
      show upS (soS σ 6 n 20 F) 0 1 _ 6 (n + j) = F j
      rw [ups_cell (by decide), soS_in hj]
    · intro j hj
      show upS (soS (upS σ1 66 5 0) 72 n 20 F) 66 7 _ 72 (n + j) = F j
      rw [ups_cell (by decide), soS_in hj]
    · intro j hj
      rw [ldS_cell (by decide) (by decide), ups_cell (by decide), hσ1]
      show upS (soS σ 6 n 20 F) 0 1 _ 6 j = σ 6 j
      rw [ups_cell (by decide), soS_out (by omega)]
    · intro j hj
      show upS (soS (upS σ1 66 5 0) 72 n 20 F) 66 7 _ 72 j = σ 72 j
      rw [ups_cell (by decide), soS_out (by omega), ups_cell (by decide), hσ1, ldS_cell (by decide) (by decide)]
