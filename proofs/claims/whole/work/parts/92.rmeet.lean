/-! PURSES MET: the reference's table of places -/
theorem iand_m15 (x : Int) : 0 ≤ iandI x 32767 ∧ iandI x 32767 < 32768 := by
  unfold iandI
  have h : ((Int32.ofInt x &&& Int32.ofInt 32767).toBitVec).toNat ≤ 32767 := by
    rw [Int32.toBitVec_and, BitVec.toNat_and]
    exact Nat.le_trans Nat.and_le_right (by decide)
  show 0 ≤ ((Int32.ofInt x &&& Int32.ofInt 32767).toBitVec).toInt ∧ ((Int32.ofInt x &&& Int32.ofInt 32767).toBitVec).toInt < 32768
  generalize (Int32.ofInt x &&& Int32.ofInt 32767).toBitVec = z at h
  rw [BitVec.toInt_eq_toNat_cond, if_pos (by omega)]
  omega
theorem iand_n15 {a : Nat} (h : a < 2147483648) : iandI (a : Int) 32767 = ((a % 32768 : Nat) : Int) := by
  have := iand_nat (a := a) (b := 32767) h (by decide)
  rw [show (32767 : Nat) = 2 ^ 15 - 1 by decide, Nat.and_two_pow_sub_one_eq_mod] at this
  exact this
def hsD (D : Nat) : Nat := (iandI (ixorI (w32 ((D : Int) * 31)) (iushrI (D : Int) 7)) 32767).toNat
theorem hsD_lt (D : Nat) : hsD D < 32768 := by
  have := iand_m15 (ixorI (w32 ((D : Int) * 31)) (iushrI (D : Int) 7))
  unfold hsD
  omega
theorem hsD_I (D : Nat) : iandI (ixorI (w32 ((D : Int) * 31)) (iushrI (D : Int) 7)) 32767 = (hsD D : Int) := by
  have := iand_m15 (ixorI (w32 ((D : Int) * 31)) (iushrI (D : Int) 7))
  unfold hsD
  omega
def pl (D k : Nat) : Nat := (hsD D + k) % 32768
def nz (τ : Sg) (m : Nat) : Nat := sumN (fun s => if τ 76 s = 0 then 0 else 1) m
def RR (τ : Sg) (S : Qs) : Prop := τ 66 23 = (S.2 : Int) ∧ (∀ i, i < S.2 → τ 75 i = (S.1 i : Int)) ∧ (∀ i, i < S.2 → ∃ k, k < 32768 ∧ τ 76 (pl (S.1 i) k) = (S.1 i : Int) + 1 ∧ ∀ j, j < k → τ 76 (pl (S.1 i) j) ≠ 0) ∧ (∀ s, s < 32768 → τ 76 s ≠ 0 → ∃ i, i < S.2 ∧ τ 76 s = (S.1 i : Int) + 1) ∧ nz τ 32768 = S.2
def FN (σ τ : Sg) : Prop := (∀ b, b ≠ 66 → b ≠ 75 → b ≠ 76 → τ b = σ b) ∧ ∀ j, j ≠ 23 → τ 66 j = σ 66 j
theorem FN.refl (σ : Sg) : FN σ σ := ⟨fun _ _ _ _ => rfl, fun _ _ => rfl⟩
theorem FN.trans {σ τ υ : Sg} (h : FN σ τ) (g : FN τ υ) : FN σ υ := ⟨fun b h1 h2 h3 => (g.1 b h1 h2 h3).trans (h.1 b h1 h2 h3), fun j hj => (g.2 j hj).trans (h.2 j hj)⟩
theorem pl_s {D k : Nat} : (pl D k + 1) % 32768 = pl D (k + 1) := by unfold pl; omega
theorem pl_lt (D k : Nat) : pl D k < 32768 := Nat.mod_lt _ (by decide)
theorem pl_inj {D j k : Nat} (hj : j < 32768) (hk : k < 32768) (h : pl D j = pl D k) : j = k := by
  have := hsD_lt D
  unfold pl at h
  omega
theorem nz_full (τ : Sg) : ∀ m, (∀ s, s < m → τ 76 s ≠ 0) → nz τ m = m := by
  intro m
  induction m with
  | zero => intro _; rfl
  | succ m ih =>
    intro h
    show nz τ m + (if τ 76 m = 0 then 0 else 1) = m + 1
    rw [ih (fun s hs => h s (by omega)), if_neg (h m (by omega))]
theorem nz_up (τ υ : Sg) (s : Nat) (h0 : τ 76 s = 0) (h1 : υ 76 s ≠ 0) (ho : ∀ j, j ≠ s → υ 76 j = τ 76 j) : ∀ m, nz υ m = if s < m then nz τ m + 1 else nz τ m := by
  intro m
  induction m with
  | zero => rw [if_neg (Nat.not_lt_zero s)]; rfl
  | succ m ih =>
    have e1 : nz υ (m + 1) = nz υ m + (if υ 76 m = 0 then 0 else 1) := rfl
    have e2 : nz τ (m + 1) = nz τ m + (if τ 76 m = 0 then 0 else 1) := rfl
    rw [e1, e2, ih]
    by_cases q : m = s
    · rw [q, if_neg h1, if_pos h0, if_neg (Nat.lt_irrefl s), if_pos (Nat.lt_succ_self s)]
    · rw [ho m q]
      by_cases w : s < m
      · rw [if_pos w, if_pos (show s < m + 1 by omega)]; omega
      · rw [if_neg w, if_neg (show ¬ s < m + 1 by omega)]
theorem code_31 {D : Nat} (h : D < 10 ^ 8) : w32 ((D : Int) + 1) = (D : Int) + 1 := by
  have h : D < 100000000 := h
  rw [w32_s (by omega)]
  omega
set_option maxRecDepth 20000 in
theorem ctX11_meets {d D : Nat} {S : Qs} {τ : Sg} (hd : 1 ≤ d) (hD : D < 10 ^ 8) (hR : RR τ S) (hn : S.2 < 24000) : ∃ τ1, Ct d MX11_meets [rV 20 66, iV (D : Int)] τ (.inl []) τ1 ∧ RR τ1 (mtS S D) ∧ FN τ τ1 := by
  obtain ⟨r1, r2, r3, r4, r5⟩ := hR
  have e31 := code_31 hD
  cases hin : inl S.1 S.2 D with
  | true =>
    have hm : mtS S D = S := if_pos hin
    rw [hm]
    refine ⟨τ, ?_, ⟨r1, r2, r3, r4, r5⟩, FN.refl τ⟩
    obtain ⟨i, i1, i2⟩ := (inl_t S.2).mp hin
    obtain ⟨k, k1, k2, k3⟩ := r3 i i1
    rw [i2] at k2 k3
    refine (eX11_meets (d := 0) ?_).mono hd
    intro X Xr Xt hC hr
    refine bX11_meets_0 hC ?_
    rw [hsD_I]
    have key : ∀ j, j ≤ k → X 14 [rV 20 66, iV (D : Int), iV (pl D j : Int)] [] τ := by
      refine loop_up (P := fun j => X 14 [rV 20 66, iV (D : Int), iV (pl D j : Int)] [] τ) ?_ ?_
      · refine bX11_meets_14 hC ?_
        have hp := pl_lt D k
        rw [Int.toNat_natCast, if_neg (by rw [k2]; clear e31; omega), k2, e31, if_pos rfl]
        exact ⟨by clear e31; omega, by clear e31; omega, hr⟩
      · intro j hj ih
        refine bX11_meets_14 hC ?_
        have hp := pl_lt D j
        rw [Int.toNat_natCast, if_neg (k3 j hj), e31]
        refine ⟨by clear e31; omega, by clear e31; omega, ?_⟩
        by_cases q : τ 76 (pl D j) = (D : Int) + 1
        · rw [if_pos q]; exact hr
        · rw [if_neg q, w32_s (by clear e31; omega), iand_n15 (by clear e31; omega), pl_s]
          exact ih
    have := key 0 (Nat.zero_le _)
    have e0 : pl D 0 = hsD D := by unfold pl; rw [Nat.add_zero, Nat.mod_eq_of_lt (hsD_lt D)]
    rw [e0] at this
    exact this
  | false =>
    have hm : mtS S D = (ud S.1 S.2 D, S.2 + 1) := if_neg (by rw [hin]; decide)
    rw [hm]
    have hno : ∀ i, i < S.2 → S.1 i ≠ D := fun i hi e => by
      have := (inl_t S.2).mpr ⟨i, hi, e⟩
      rw [hin] at this
      exact Bool.noConfusion this
    have hex : ∃ k, k < 32768 ∧ τ 76 (pl D k) = 0 ∧ ∀ j, j < k → ¬ τ 76 (pl D j) = 0 := by
      rcases fst_n 32768 (fun k => τ 76 (pl D k) = 0) with h | h
      · exfalso
        have hall : ∀ s, s < 32768 → τ 76 s ≠ 0 := by
          intro s hs
          have hh := hsD_lt D
          have := h ((s + 32768 - hsD D) % 32768) (Nat.mod_lt _ (by decide))
          have e : pl D ((s + 32768 - hsD D) % 32768) = s := by unfold pl; clear e31; omega
          rw [e] at this
          exact this
        have := nz_full τ 32768 hall
        rw [r5] at this
        omega
      · exact h
    obtain ⟨k, k1, k2, k3⟩ := hex
    have hp := pl_lt D k
    have hnd : ∀ j, τ 76 (pl D j) ≠ (D : Int) + 1 := by
      intro j e
      have hne : τ 76 (pl D j) ≠ 0 := by rw [e]; clear e31; omega
      obtain ⟨i, i1, i2⟩ := r4 (pl D j) (pl_lt D j) hne
      rw [e] at i2
      exact hno i i1 (by clear e31; omega)
    obtain ⟨υ, hυ⟩ : ∃ υ, υ = upS (upS (upS τ 76 (pl D k) ((D : Int) + 1)) 75 S.2 (D : Int)) 66 23 ((S.2 + 1 : Nat) : Int) := ⟨_, rfl⟩
    have u76 : υ 76 (pl D k) = (D : Int) + 1 := by rw [hυ, ups_cell (by decide), ups_cell (by decide), ups_eq]
    have u76o : ∀ s, s ≠ pl D k → υ 76 s = τ 76 s := fun s hs => by rw [hυ, ups_cell (by decide), ups_cell (by decide), ups_ne (Or.inr hs)]
    have unz : ∀ s, τ 76 s ≠ 0 → υ 76 s = τ 76 s := fun s hs => u76o s (fun e => hs (by rw [e]; exact k2))
    have unz2 : ∀ s, τ 76 s ≠ 0 → υ 76 s ≠ 0 := fun s hs => by rw [unz s hs]; exact hs
    refine ⟨υ, ?_, ⟨?_, ?_, ?_, ?_, ?_⟩, ?_, ?_⟩
    · refine (eX11_meets (d := 0) ?_).mono hd
      intro X Xr Xt hC hr
      refine bX11_meets_0 hC ?_
      rw [hsD_I]
      have key : ∀ j, j ≤ k → X 14 [rV 20 66, iV (D : Int), iV (pl D j : Int)] [] τ := by
        refine loop_up (P := fun j => X 14 [rV 20 66, iV (D : Int), iV (pl D j : Int)] [] τ) ?_ ?_
        · refine bX11_meets_14 hC ?_
          rw [Int.toNat_natCast, if_pos k2, e31, ups_cell (show 66 ≠ 76 by decide), r1, Int.toNat_natCast, ups_cell (show 66 ≠ 75 by decide), ups_cell (show 66 ≠ 76 by decide), r1, w32_s (by clear e31; omega)]
          rw [hυ] at hr
          exact ⟨by clear e31; omega, by clear e31; omega, by clear e31; omega, hr⟩
        · intro j hj ih
          refine bX11_meets_14 hC ?_
          have hpj := pl_lt D j
          rw [Int.toNat_natCast, if_neg (k3 j hj), e31, if_neg (hnd j), w32_s (by clear e31; omega), iand_n15 (by clear e31; omega), pl_s]
          exact ⟨by clear e31; omega, by clear e31; omega, ih⟩
      have := key 0 (Nat.zero_le _)
      have e0 : pl D 0 = hsD D := by unfold pl; rw [Nat.add_zero, Nat.mod_eq_of_lt (hsD_lt D)]
      rw [e0] at this
      exact this
    · rw [hυ, ups_eq]
    · intro i hi
      have hi : i < S.2 + 1 := hi
      show υ 75 i = ((ud S.1 S.2 D i : Nat) : Int)
      rw [hυ, ups_cell (by decide)]
      by_cases e : i = S.2
      · rw [e, ups_eq, ud_eq]
      · rw [ups_ne (Or.inr e), ups_cell (by decide), ud_ne e]
        exact r2 i (by clear e31; omega)
    · intro i hi
      have hi : i < S.2 + 1 := hi
      show ∃ k, k < 32768 ∧ υ 76 (pl (ud S.1 S.2 D i) k) = ((ud S.1 S.2 D i : Nat) : Int) + 1 ∧ ∀ j, j < k → υ 76 (pl (ud S.1 S.2 D i) j) ≠ 0
      by_cases e : i = S.2
      · rw [e, ud_eq]
        exact ⟨k, k1, u76, fun j hj => unz2 _ (k3 j hj)⟩
      · rw [ud_ne e]
        obtain ⟨k', q1, q2, q3⟩ := r3 i (by clear e31; omega)
        exact ⟨k', q1, by rw [unz _ (by rw [q2]; clear e31; omega)]; exact q2, fun j hj => unz2 _ (q3 j hj)⟩
    · intro s hs hne
      show ∃ i, i < S.2 + 1 ∧ υ 76 s = ((ud S.1 S.2 D i : Nat) : Int) + 1
      by_cases e : s = pl D k
      · exact ⟨S.2, Nat.lt_succ_self _, by rw [ud_eq, e]; exact u76⟩
      · rw [u76o s e] at hne ⊢
        obtain ⟨i, i1, i2⟩ := r4 s hs hne
        exact ⟨i, by clear e31; omega, by rw [ud_ne (by clear e31; omega)]; exact i2⟩
    · show nz υ 32768 = S.2 + 1
      rw [nz_up τ υ (pl D k) k2 (by rw [u76]; clear e31; omega) u76o, if_pos hp, r5]
    · intro b h1 h2 h3
      rw [hυ, ups_cell h1, ups_cell h2, ups_cell h3]
    · intro j hj
      rw [hυ, ups_ne (Or.inr hj), ups_cell (by decide), ups_cell (by decide)]
/-! a change, by codes -/
theorem cvP_1 {N : Tn} (hW : WFN N) {k D : Nat} (hk : k < 6) (h : ∀ c, c < N 1 → sN N k 0 c ≤ dg D c) : cvP N k D = true := cvP_t.mpr (fun c hc => by
  by_cases q : c < N 1
  · exact h c q
  · rw [hW.2.2.2.2.2.2.1 k 0 c hk (by decide) hc (Or.inr (by omega))]
    exact Nat.zero_le _)
theorem ctX11_changed {d D k : Nat} {N : Tn} {τ : Sg} (hd : 2 ≤ d) (hW : WFN N) (hk : k < 6) (hD : okD N D) (hM : RowM τ 67 0 N) : Ct d MX11_changed [rV 20 66, iV (D : Int), iV (k : Int)] τ (.inl [iV (if cvB N k D = true then (cvN N k D : Int) else -1)]) τ := by
  have h8 := hW.1.1
  have hD8 : D < 100000000 := hD.1
  refine (eX11_changed (d := 1) ?_).mono hd
  intro X Xr Xt hC hr
  refine bX11_changed_0 hC ?_
  have cv0 : ∀ c, c < 8 → N 1 ≤ c → cvV N k D c = 0 := fun c hc hn => by
    unfold cvV
    rw [hD.2.1 c hc hn, hW.2.2.2.2.2.2.1 k 0 c hk (by decide) hc (Or.inr hn), hW.2.2.2.2.2.2.1 k 1 c hk (by decide) hc (Or.inr hn)]
  have cvle : ∀ c, c < 8 → cvV N k D c ≤ 12 := fun c hc => by
    have := sN_le hW hk (show 1 < 2 by decide) hc
    have : dg D c ≤ 9 := dg_le
    unfold cvV
    omega
  have key : ∀ c, c ≤ N 1 → (∀ e, e < c → sN N k 0 e ≤ dg D e) → ∀ (x : Nat) (y : Int), x = sumN (cvV N k D) c → y = (D : Int) - (cdB 10 (sN N k 0) c : Int) + (cdB 10 (sN N k 1) c : Int) → X 8 [rV 20 66, iV (D : Int), iV (k : Int), iV y, iV (x : Int), iV (c : Int), uV] [] τ := by
    refine loop_up (P := fun c => (∀ e, e < c → sN N k 0 e ≤ dg D e) → ∀ (x : Nat) (y : Int), x = sumN (cvV N k D) c → y = (D : Int) - (cdB 10 (sN N k 0) c : Int) + (cdB 10 (sN N k 1) c : Int) → X 8 [rV 20 66, iV (D : Int), iV (k : Int), iV y, iV (x : Int), iV (c : Int), uV] [] τ) ?_ ?_
    · intro h1 x y hx hy
      refine bX11_changed_8 hC ?_
      have hp := cvP_1 hW hk h1
      have e8 : sumN (cvV N k D) 8 = sumN (cvV N k D) (N 1) := sumN_zero h8 (fun i a b => cv0 i b a)
      refine ⟨_, ctX11_coins (by decide) hM, ?_⟩
      rw [if_neg (by omega)]
      by_cases z : sumN (cvV N k D) 8 ≤ 9
      · have hb : cvB N k D = true := by unfold cvB; rw [hp, decide_eq_true z]; rfl
        rw [hb, if_pos rfl] at hr
        rw [if_neg (by omega)]
        have e0 : (cvN N k D : Int) = (cdB 10 (dg D) 8 : Int) - (cdB 10 (sN N k 0) 8 : Int) + (cdB 10 (sN N k 1) 8 : Int) := cdB_lin 8 (cvP_t.mp hp)
        have e1 : cdB 10 (dg D) 8 = D := by rw [cdB_dg]; exact Nat.mod_eq_of_lt hD.1
        have e2 : ∀ s, s < 2 → cdB 10 (sN N k s) 8 = cdB 10 (sN N k s) (N 1) := fun s hs => cdB_lo h8 (fun c a b => hW.2.2.2.2.2.2.1 k s c hk hs b (Or.inr a))
        rw [e1, e2 0 (by decide), e2 1 (by decide), ← hy] at e0
        rw [e0] at hr
        exact hr
      · have hb : cvB N k D = false := by unfold cvB; rw [decide_eq_false z, Bool.and_false]
        rw [hb, if_neg (by decide)] at hr
        rw [if_pos (by omega)]
        exact hr
    · intro c hc ih h1 x y hx hy
      refine bX11_changed_8 hC ?_
      refine ⟨_, ctX11_coins (by decide) hM, ?_⟩
      rw [if_pos (by omega)]
      refine ⟨_, ctX11_ten (by decide) (by omega), ten_pos c, _, ctX11_side (s := 0) (by decide) hk (by decide) (by omega) hM, ?_⟩
      rw [ten_dg hD.1]
      by_cases z : dg D c < sN N k 0 c
      · have hb : cvB N k D = false := by unfold cvB; rw [cvP_f (show c < 8 by omega) z]; rfl
        rw [hb, if_neg (by decide)] at hr
        rw [if_pos (by omega)]
        exact hr
      · rw [if_neg (by omega)]
        refine ⟨_, ctX11_side (s := 1) (by decide) hk (by decide) (by omega) hM, _, ctX11_side (s := 0) (by decide) hk (by decide) (by omega) hM, _, ctX11_ten (by decide) (by omega), _, ctX11_side (s := 0) (by decide) hk (by decide) (by omega) hM, _, ctX11_side (s := 1) (by decide) hk (by decide) (by omega) hM, ?_⟩
        have b1 := cvle c (by omega)
        have bx : sumN (cvV N k D) c ≤ c * 12 := sumN_bound (fun i hi => cvle i (by omega))
        have es := sumN_s (cvV N k D) c
        have b2 : dg D c ≤ 9 := dg_le
        have b3 := sN_le hW hk (show 1 < 2 by decide) (show c < 8 by omega)
        have b4 := sN_le hW hk (show 0 < 2 by decide) (show c < 8 by omega)
        have hpw : 10 ^ c ≤ 10 ^ 7 := Nat.pow_le_pow_right (by decide) (by omega)
        have hpw : 10 ^ c ≤ 10000000 := hpw
        have cb : ∀ s, s < 2 → cdB 10 (sN N k s) (c + 1) < 100000000 := by
          intro s hs
          have h1 := (cdB_ok (B := 10) (by decide) (c + 1) (fun e he => Nat.lt_of_le_of_lt (sN_le hW hk hs (show e < 8 by omega)) (by decide))).1
          exact Nat.lt_of_lt_of_le h1 (Nat.pow_le_pow_right (by decide) (show c + 1 ≤ 8 by omega))
        have c0 := cb 0 (by decide)
        have c1 := cb 1 (by decide)
        rw [cdB_s] at c0 c1
        obtain ⟨T, hT⟩ : ∃ T, T = 10 ^ c := ⟨_, rfl⟩
        rw [← hT] at hpw c0 c1 ⊢
        have m1 : (sN N k 1 c : Int) * (T : Int) = ((sN N k 1 c * T : Nat) : Int) := (Int.natCast_mul _ _).symm
        have m0 : (sN N k 0 c : Int) * (T : Int) = ((sN N k 0 c * T : Nat) : Int) := (Int.natCast_mul _ _).symm
        have w1 : w32 ((sN N k 1 c : Int) - (sN N k 0 c : Int)) = (sN N k 1 c : Int) - (sN N k 0 c : Int) := w32_id (by omega) (by omega)
        have w2 : w32 (((sN N k 1 c : Int) - (sN N k 0 c : Int)) * (T : Int)) = ((sN N k 1 c * T : Nat) : Int) - ((sN N k 0 c * T : Nat) : Int) := by rw [Int.sub_mul, m1, m0]; exact w32_id (by omega) (by omega)
        rw [w1, w2]
        clear w1 w2 m1 m0
        have w3 : w32 (y + (((sN N k 1 c * T : Nat) : Int) - ((sN N k 0 c * T : Nat) : Int))) = y + (((sN N k 1 c * T : Nat) : Int) - ((sN N k 0 c * T : Nat) : Int)) := w32_id (by omega) (by omega)
        rw [w3]
        clear w3
        rw [w_sb (show sN N k 0 c ≤ dg D c by omega) (by omega), ← Int.natCast_add]
        have e2 : dg D c - sN N k 0 c + sN N k 1 c = cvV N k D c := rfl
        rw [e2, w32_n (show cvV N k D c < 2147483648 by omega), ← Int.natCast_add, w32_n (show x + cvV N k D c < 2147483648 by omega), w32_s (by omega)]
        refine ih ?_ _ _ (by omega) ?_
        · intro e he
          by_cases q : e = c
          · rw [q]; omega
          · exact h1 e (by omega)
        · rw [cdB_s, cdB_s, ← hT, hy]
          omega
  exact key 0 (Nat.zero_le _) (fun e he => absurd he (Nat.not_lt_zero e)) 0 _ rfl (by show (D : Int) = (D : Int) - ((0 : Nat) : Int) + ((0 : Nat) : Int); omega)
