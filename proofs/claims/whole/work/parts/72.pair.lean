/-! PAIRS: year -/
def drw (x : Int) : Int := w32 (w32 (1103515245 * x) + 12345)
def drv (x : Int) (m : Nat) : Nat := ((x % 4294967296).toNat / 65536) % m
theorem drv_I (x : Int) (m : Nat) : (iushrI x 16).tmod (m : Int) = (drv x m : Int) := by
  have := iushr_any (x := x) (k := 16) (by decide) (by decide)
  rw [show ((16 : Nat) : Int) = 16 from rfl] at this
  rw [this, tmod_nat]
  rfl
def pY (N : Tn) (x : Int) : Nat := drv (drw x) (N 2)
def cY (N : Tn) (x : Int) : Nat := drv (drw (drw (drw x))) (N 1)
def yst (N : Tn) (x : Int) : Tn × Int × Int := if drv (drw (drw x)) 4 = 0 then (if grN N (pY N x) (N 1) = -1 then (N, drw (drw x), 0) else (txN N (pY N x) (grN N (pY N x) (N 1)).toNat, drw (drw x), -1)) else if mN N (pY N x) < 9 then (updN N (12 + (8 * pY N x + cY N x)) (hN N (pY N x) (cY N x) + 1), drw (drw (drw x)), 1) else (N, drw (drw (drw x)), 0)
theorem txN_2 (N : Tn) {p c : Nat} : txN N p c 2 = N 2 := by unfold txN; rw [updN_ne (by omega), updN_ne (by omega)]
theorem yst_ok {N : Tn} {x : Int} (hW : WFN N) (h0 : 0 < N 2) : WFN (yst N x).1 ∧ 0 < (yst N x).1 2 ∧ (-1 ≤ (yst N x).2.2 ∧ (yst N x).2.2 ≤ 1) := by
  have hp : pY N x < N 2 := Nat.mod_lt _ h0
  have hn1 := hW.1.2.2.2.2 h0
  have hc : cY N x < N 1 := Nat.mod_lt _ hn1
  have hrg := grN_rng N (pY N x) (N 1)
  unfold yst
  split
  · split
    · exact ⟨hW, h0, by show (-1 : Int) ≤ 0; decide, by show (0 : Int) ≤ 1; decide⟩
    · rename_i h1 h2
      refine ⟨txN_wf hW hp (by omega), ?_, by show (-1 : Int) ≤ -1; decide, by show (-1 : Int) ≤ 1; decide⟩
      show 0 < txN N (pY N x) _ 2
      rw [txN_2]
      exact h0
  · split
    · refine ⟨WFN_hold hW hp hc (by omega), ?_, by show (-1 : Int) ≤ 1; decide, by show (1 : Int) ≤ 1; decide⟩
      show 0 < updN N _ _ 2
      rw [updN_ne (by omega)]
      exact h0
    · exact ⟨hW, h0, by show (-1 : Int) ≤ 0; decide, by show (0 : Int) ≤ 1; decide⟩
def yI (N : Tn) (x : Int) : Nat → Tn × Int × Int
  | 0 => (N, x, 0)
  | k + 1 => ((yst (yI N x k).1 (yI N x k).2.1).1, (yst (yI N x k).1 (yI N x k).2.1).2.1, (yI N x k).2.2 + (yst (yI N x k).1 (yI N x k).2.1).2.2)
theorem yI_ok {N : Tn} {x : Int} (hW : WFN N) (h0 : 0 < N 2) : ∀ k : Nat, WFN (yI N x k).1 ∧ 0 < (yI N x k).1 2 ∧ (-(k : Int) ≤ (yI N x k).2.2 ∧ (yI N x k).2.2 ≤ (k : Int)) := by
  intro k
  induction k with
  | zero => exact ⟨hW, h0, by show -(0 : Int) ≤ 0; decide, by show (0 : Int) ≤ 0; decide⟩
  | succ k ih =>
    have := yst_ok (x := (yI N x k).2.1) ih.1 ih.2.1
    refine ⟨this.1, this.2.1, ?_⟩
    show -((k + 1 : Nat) : Int) ≤ (yI N x k).2.2 + (yst (yI N x k).1 (yI N x k).2.1).2.2 ∧ (yI N x k).2.2 + (yst (yI N x k).1 (yI N x k).2.1).2.2 ≤ ((k + 1 : Nat) : Int)
    omega
theorem tn_ext {σ μ : Sg} {t : Nat} {M : Tn} (hT : RowT μ t M) (hn : ∀ b j, ¬ (b = t ∧ j < 4) → ¬ (b = t + 2 ∧ j < 25) → ¬ (b = t + 3 ∧ j < 8) → ¬ (b = t + 4 ∧ j < 40) → ¬ (b = t + 5 ∧ j < 96) → ¬ (b = t + 6 ∧ j < 8) → μ b j = σ b j) : μ = tnS σ t M := by
  funext b j
  unfold tnS
  by_cases q0 : b = t ∧ j < 4
  · rw [if_pos q0, q0.1]; exact hT.1 j q0.2
  rw [if_neg q0]
  by_cases q2 : b = t + 2 ∧ j < 25
  · rw [if_pos q2, q2.1]; exact hT.2.1 j q2.2
  rw [if_neg q2]
  by_cases q3 : b = t + 3 ∧ j < 8
  · rw [if_pos q3, q3.1]; exact hT.2.2.1 j q3.2
  rw [if_neg q3]
  by_cases q4 : b = t + 4 ∧ j < 40
  · rw [if_pos q4, q4.1]; exact hT.2.2.2.1 j q4.2
  rw [if_neg q4]
  by_cases q5 : b = t + 5 ∧ j < 96
  · rw [if_pos q5, q5.1]; exact hT.2.2.2.2.1 j q5.2
  rw [if_neg q5]
  by_cases q6 : b = t + 6 ∧ j < 8
  · rw [if_pos q6, q6.1]; exact hT.2.2.2.2.2 j q6.2
  rw [if_neg q6]
  exact hn b j q0 q2 q3 q4 q5 q6
theorem tnS_no {σ : Sg} {t b j : Nat} {M : Tn} (q0 : ¬ (b = t ∧ j < 4)) (q2 : ¬ (b = t + 2 ∧ j < 25)) (q3 : ¬ (b = t + 3 ∧ j < 8)) (q4 : ¬ (b = t + 4 ∧ j < 40)) (q5 : ¬ (b = t + 5 ∧ j < 96)) (q6 : ¬ (b = t + 6 ∧ j < 8)) : tnS σ t M b j = σ b j := by
  unfold tnS
  rw [if_neg q0, if_neg q2, if_neg q3, if_neg q4, if_neg q5, if_neg q6]
theorem tnS_tnS (σ : Sg) (t : Nat) (M M2 : Tn) : tnS (tnS σ t M) t M2 = tnS σ t M2 := tn_ext (tnS_row _ _ _) (fun b j q0 q2 q3 q4 q5 q6 => by rw [tnS_no q0 q2 q3 q4 q5 q6, tnS_no q0 q2 q3 q4 q5 q6])
def cmY (σ : Sg) (N : Tn) (x : Int) : Sg := tnS (upS σ 65 0 x) 7 N
theorem tnS_ups {σ : Sg} {t a k : Nat} {v : Int} {M : Tn} (h : a < t ∨ t + 6 < a) : upS (tnS σ t M) a k v = tnS (upS σ a k v) t M := by
  funext b j
  by_cases e : b = a ∧ j = k
  · rw [e.1, e.2, ups_eq, tnS_cell h, ups_eq]
  · have h1 : upS (tnS σ t M) a k v b j = tnS σ t M b j := if_neg e
    have h2 : upS σ a k v b j = σ b j := if_neg e
    rw [h1]
    unfold tnS
    rw [h2]
theorem ups_ups (σ : Sg) (a k : Nat) (v w : Int) : upS (upS σ a k v) a k w = upS σ a k w := by
  funext b j
  unfold upS
  by_cases e : b = a ∧ j = k
  · rw [if_pos e, if_pos e]
  · rw [if_neg e, if_neg e, if_neg e]
theorem cmY_x {σ : Sg} {N : Tn} {x : Int} : cmY σ N x 65 0 = x := by
  show tnS (upS σ 65 0 x) 7 N 65 0 = x
  rw [tnS_cell (by omega)]
  exact ups_eq
theorem cmY_up {σ : Sg} {N : Tn} {x y : Int} : upS (cmY σ N x) 65 0 y = cmY σ N y := by
  show upS (tnS (upS σ 65 0 x) 7 N) 65 0 y = tnS (upS σ 65 0 y) 7 N
  rw [tnS_ups (by omega), ups_ups]
theorem ctX2_below {d m : Nat} {σ : Sg} {N : Tn} {x : Int} (hd : 1 ≤ d) (hm : 0 < m) : Ct d MX2_below [rV 12 65, iV (m : Int)] (cmY σ N x) (.inl [iV (drv (drw x) m : Int)]) (cmY σ N (drw x)) := by
  refine (eX2_below (d := 0) ?_).mono hd
  intro X Xr Xt hC hr
  refine bX2_below_0 hC ?_
  rw [if_pos (by omega), ups_eq, cmY_x]
  refine ⟨by omega, ?_⟩
  have e : upS (cmY σ N x) 65 0 (w32 (w32 (1103515245 * x) + 12345)) = cmY σ N (drw x) := cmY_up
  rw [e]
  have e2 : (iushrI (w32 (w32 (1103515245 * x) + 12345)) 16).tmod (m : Int) = (drv (drw x) m : Int) := drv_I (drw x) m
  rw [e2]
  exact hr
theorem cmY_row (σ : Sg) (N : Tn) (x : Int) : RowT (cmY σ N x) 7 N := tnS_row _ _ _
theorem ctX10_yearStep {d : Nat} {σ : Sg} {N : Tn} {x : Int} (hd : 4 ≤ d) (hW : WFN N) (h0 : 0 < N 2) : Ct d MX10_yearStep [rV 19 0] (cmY σ N x) (.inl [iV (yst N x).2.2]) (cmY σ (yst N x).1 (yst N x).2.1) := by
  have h5 := hW.1.2.1
  have h8 := hW.1.1
  have hp : pY N x < N 2 := Nat.mod_lt _ h0
  have hn1 := hW.1.2.2.2.2 h0
  have hc : cY N x < N 1 := Nat.mod_lt _ hn1
  have hrg := grN_rng N (pY N x) (N 1)
  refine (eX10_yearStep (d := 3) ?_).mono hd
  intro X Xr Xt hC hr
  refine bX10_yearStep_0 hC ?_
  rw [(cmY_row σ N x).1 2 (by decide)]
  refine ⟨_, _, ctX2_below (by decide) h0, _, _, ctX2_below (m := 4) (by decide) (by decide), ?_⟩
  unfold yst at hr
  by_cases a : drv (drw (drw x)) 4 = 0
  · rw [if_pos a] at hr
    rw [if_pos (by omega)]
    by_cases b : grN N (pY N x) (N 1) = -1
    · rw [if_pos b] at hr
      refine ⟨_, _, ctX8_taxOne_no (p := pY N x) (by decide) hW (by omega) b (cmY_row _ _ _), ?_⟩
      rw [if_pos rfl]
      exact hr
    · rw [if_neg b] at hr
      obtain ⟨c, hc2⟩ := z_nat (show 0 ≤ grN N (pY N x) (N 1) by omega)
      rw [hc2, Int.toNat_natCast] at hr
      refine ⟨_, _, ctX8_taxOne (p := pY N x) (by decide) hW hp hc2 (cmY_row _ _ _), ?_⟩
      rw [if_neg (by omega)]
      have e : tnS (cmY σ N (drw (drw x))) 7 (txN N (pY N x) c) = cmY σ (txN N (pY N x) c) (drw (drw x)) := by
        exact tnS_tnS _ _ _ _
      rw [e]
      exact hr
  · rw [if_neg a] at hr
    rw [if_neg (by omega), (cmY_row _ _ _).1 1 (by decide)]
    refine ⟨_, _, ctX2_below (by decide) hn1, _, ctX8_many (p := pY N x) (by decide) hW (by omega) (cmY_row _ _ _), ?_⟩
    by_cases b : mN N (pY N x) < 9
    · rw [if_pos b] at hr
      rw [if_pos (by omega)]
      have hh := hN_le hW (show pY N x < 5 by omega) (show cY N x < 8 by omega)
      exact ⟨_, ctX8_come (p := pY N x) (c := cY N x) (v := hN N (pY N x) (cY N x) + 1) (by decide) (by omega) (by omega) (by omega) (by omega), hr⟩
    · rw [if_neg b] at hr
      rw [if_neg (by omega)]
      exact hr
/-! the reference's draws: 66, slot 18 -/
def rmY (τ : Sg) (N : Tn) (x : Int) : Sg := rwS (upS τ 66 18 x) 67 0 N
theorem rwS_ups {σ : Sg} {a off b k : Nat} {v : Int} {M : Tn} (h : b ≠ a) : upS (rwS σ a off M) b k v = rwS (upS σ b k v) a off M := by
  funext c j
  by_cases e : c = b ∧ j = k
  · rw [e.1, e.2, ups_eq, rwS_cell h, ups_eq]
  · have h1 : upS (rwS σ a off M) b k v c j = rwS σ a off M c j := if_neg e
    have h2 : upS σ b k v c j = σ c j := if_neg e
    rw [h1]
    unfold rwS
    rw [h2]
theorem rmY_x {τ : Sg} {N : Tn} {x : Int} : rmY τ N x 66 18 = x := by
  show rwS (upS τ 66 18 x) 67 0 N 66 18 = x
  rw [rwS_cell (by decide)]
  exact ups_eq
theorem rmY_up {τ : Sg} {N : Tn} {x y : Int} : upS (rmY τ N x) 66 18 y = rmY τ N y := by
  show upS (rwS (upS τ 66 18 x) 67 0 N) 66 18 y = rwS (upS τ 66 18 y) 67 0 N
  rw [rwS_ups (by decide), ups_ups]
theorem rmY_row (τ : Sg) (N : Tn) (x : Int) : RowM (rmY τ N x) 67 0 N := rwS_row _ _ _ _
theorem ctX11_draw {d m : Nat} {τ : Sg} {N : Tn} {x : Int} (hd : 1 ≤ d) (hm : 0 < m) : Ct d MX11_draw [rV 20 66, iV (m : Int)] (rmY τ N x) (.inl [iV (drv (drw x) m : Int)]) (rmY τ N (drw x)) := by
  refine (eX11_draw (d := 0) ?_).mono hd
  intro X Xr Xt hC hr
  refine bX11_draw_0 hC ?_
  rw [ups_eq, rmY_x]
  refine ⟨by omega, ?_⟩
  have e : upS (rmY τ N x) 66 18 (w32 (w32 (1103515245 * x) + 12345)) = rmY τ N (drw x) := rmY_up
  rw [e]
  have e2 : (iushrI (w32 (w32 (1103515245 * x) + 12345)) 16).tmod (m : Int) = (drv (drw x) m : Int) := drv_I (drw x) m
  rw [e2]
  exact hr
theorem rwS_rwS (σ : Sg) (a off : Nat) (M M2 : Tn) : rwS (rwS σ a off M) a off M2 = rwS σ a off M2 := by
  funext b j
  unfold rwS
  by_cases e : b = a ∧ off ≤ j ∧ j < off + 181
  · rw [if_pos e, if_pos e]
  · rw [if_neg e, if_neg e, if_neg e]
theorem jt_year {ω : Nat → Int} {σ : Sg} (hI : Inv ω σ) (x y : Int) : Jt ω MX10_year MX11_year [iV x, iV y] iV cdY σ := by
  obtain ⟨N, hQ⟩ := hI.1
  have hW := hQ.2.2
  have h5 := hW.1.2.1
  have h8 := hW.1.1
  by_cases h : 1 ≤ y ∧ y ≤ 60
  · obtain ⟨n, hn⟩ := z_nat (show 0 ≤ y by omega)
    subst hn
    by_cases h0 : N 2 = 0
    · refine Or.inr ⟨3, σ, by decide, ?_, ?_⟩
      · refine (eX10_year (d := 6) ?_).mono (by decide)
        intro X Xr Xt hC hr
        refine bX10_year_0 hC ?_
        rw [if_neg (by omega), if_neg (by omega), hQ.1.1 2 (by decide), if_pos (by omega)]
        exact hr
      · intro τ ha
        have hM0 := (InvN_ag hQ ha).2.1
        have hM : ∀ v, RowM (upS τ 66 5 v) 67 0 N := fun v => RowM_ups hM0 (by decide)
        refine ⟨0, upS τ 66 5 2, ?_, ups_eq, Inv_fr hI (th_fr ha)⟩
        refine (eX11_year (d := 6) ?_).mono (by decide)
        intro X Xr Xt hC hr
        refine bX11_year_0 hC ?_
        refine ⟨_, ctX11_wi (by decide) h, ?_⟩
        rw [if_neg (by decide)]
        refine ⟨_, ctX11_people (by decide) hM0, ?_⟩
        rw [if_pos (by omega), ups_eq, if_pos (by decide)]
        exact hr
    · have hp0 : 0 < N 2 := by omega
      have hok := yI_ok (N := N) (x := x) hW hp0
      have hfin := hok n
      refine Or.inl ⟨(yI N x n).2.2, cmY σ (yI N x n).1 (yI N x n).2.1, ?_, ?_⟩
      · refine (eX10_year (d := 6) ?_).mono (by decide)
        intro X Xr Xt hC hr
        refine bX10_year_0 hC ?_
        rw [if_neg (by omega), if_neg (by omega), hQ.1.1 2 (by decide), if_neg (by omega)]
        have key : ∀ k, k ≤ n → X 54 [rV 19 0, iV x, iV (n : Int), iV (yI N x k).2.2, iV (k : Int)] [] (cmY σ (yI N x k).1 (yI N x k).2.1) := by
          refine loop_up (P := fun k => X 54 [rV 19 0, iV x, iV (n : Int), iV (yI N x k).2.2, iV (k : Int)] [] (cmY σ (yI N x k).1 (yI N x k).2.1)) ?_ ?_
          · refine bX10_year_54 hC ?_
            rw [if_neg (by omega)]
            exact hr
          · intro k hk ih
            refine bX10_year_54 hC ?_
            have hk2 := hok k
            have hk3 := yst_ok (x := (yI N x k).2.1) hk2.1 hk2.2.1
            rw [if_pos (by omega)]
            refine ⟨_, _, ctX10_yearStep (by decide) hk2.1 hk2.2.1, ?_⟩
            rw [show w32 ((yI N x k).2.2 + (yst (yI N x k).1 (yI N x k).2.1).2.2) = (yI N x k).2.2 + (yst (yI N x k).1 (yI N x k).2.1).2.2 by unfold w32; omega, w32_s (by omega)]
            exact ih
        have := key 0 (Nat.zero_le _)
        have e : cmY σ (yI N x 0).1 (yI N x 0).2.1 = upS σ 65 0 x := tnS_id (RowT_fr hQ.1 (fun i hi => ups_cell (by omega)))
        rw [e] at this
        exact this
      · intro τ ha
        have hcf : FrC σ (cmY σ (yI N x n).1 (yI N x n).2.1) := ((FrC.refl σ).cell (c := 65) (υ := upS σ 65 0 (yI N x n).2.1) (by decide) (by decide) (fun b hb => ups_cell hb)).tn
        have hM0 := RowM_c hQ.2.1 hcf ha
        have hM1 : RowM (upS τ 66 5 0) 67 0 N := RowM_ups hM0 (by decide)
        have hfr : FrR τ (rmY (upS τ 66 5 0) (yI N x n).1 (yI N x n).2.1) := ((th_r (FrR.refl τ)).ups66 (by decide) (by decide) (by decide)).rw67
        refine ⟨rmY (upS τ 66 5 0) (yI N x n).1 (yI N x n).2.1, ?_, ?_, wr_end hI hcf (tnS_row _ _ _) ha hfr (rwS_row _ _ _ _) hfin.1⟩
        · refine (eX11_year (d := 6) ?_).mono (by decide)
          intro X Xr Xt hC hr
          refine bX11_year_0 hC ?_
          refine ⟨_, ctX11_wi (by decide) h, ?_⟩
          rw [if_neg (by decide)]
          refine ⟨_, ctX11_people (by decide) hM0, ?_⟩
          rw [if_neg (by omega), ups_eq, if_neg (by decide)]
          have key : ∀ k, k ≤ n → X 51 [rV 20 66, iV x, iV (n : Int), iV (yI N x k).2.2, iV (k : Int), uV, uV] [] (rmY (upS τ 66 5 0) (yI N x k).1 (yI N x k).2.1) := by
            refine loop_up (P := fun k => X 51 [rV 20 66, iV x, iV (n : Int), iV (yI N x k).2.2, iV (k : Int), uV, uV] [] (rmY (upS τ 66 5 0) (yI N x k).1 (yI N x k).2.1)) ?_ ?_
            · refine bX11_year_51 hC ?_
              rw [if_neg (by omega)]
              exact hr
            · intro k hk ih
              have hk2 := hok k
              have hk3 := yst_ok (x := (yI N x k).2.1) hk2.1 hk2.2.1
              have ih : X 51 [rV 20 66, iV x, iV (n : Int), iV ((yI N x k).2.2 + (yst (yI N x k).1 (yI N x k).2.1).2.2), iV ((k + 1 : Nat) : Int), uV, uV] [] (rmY (upS τ 66 5 0) (yst (yI N x k).1 (yI N x k).2.1).1 (yst (yI N x k).1 (yI N x k).2.1).2.1) := ih
              generalize yI N x k = s at hk2 hk3 ih ⊢
              obtain ⟨M, z, g⟩ := s
              have hk2 : WFN M ∧ 0 < M 2 ∧ (-(k : Int) ≤ g ∧ g ≤ (k : Int)) := hk2
              have ih : X 51 [rV 20 66, iV x, iV (n : Int), iV (g + (yst M z).2.2), iV ((k + 1 : Nat) : Int), uV, uV] [] (rmY (upS τ 66 5 0) (yst M z).1 (yst M z).2.1) := ih
              show X 51 [rV 20 66, iV x, iV (n : Int), iV g, iV (k : Int), uV, uV] [] (rmY (upS τ 66 5 0) M z)
              have g5 := hk2.1.1.2.1
              have g8 := hk2.1.1.1
              have hp : pY M z < M 2 := Nat.mod_lt _ hk2.2.1
              have hn1 := hk2.1.1.2.2.2.2 hk2.2.1
              have hc : cY M z < M 1 := Nat.mod_lt _ hn1
              have hrg := grN_rng M (pY M z) (M 1)
              refine bX11_year_51 hC ?_
              rw [if_pos (by omega)]
              refine ⟨_, ctX11_people (by decide) (rmY_row _ _ _), _, _, ctX11_draw (by decide) hk2.2.1, _, _, ctX11_draw (m := 4) (by decide) (by decide), ?_⟩
              rw [w32_s (show k < 2147483647 by omega), show w32 (g - 0) = g + 0 by unfold w32; omega, show w32 (g - 1) = g + -1 by unfold w32; omega, show w32 (g + 1) = g + 1 by unfold w32; omega]
              unfold yst at ih
              by_cases a : drv (drw (drw z)) 4 = 0
              · rw [if_pos a] at ih
                rw [if_pos (by omega)]
                have ht := ctX11_taxes (d := 6) (p := pY M z) (by decide) hk2.1 hp (rmY_row (upS τ 66 5 0) M (drw (drw z)))
                refine ⟨_, _, ht, ?_⟩
                by_cases b : grN M (pY M z) (M 1) = -1
                · rw [if_pos b] at ih
                  rw [if_pos b, if_pos b]
                  exact ih
                · rw [if_neg b] at ih
                  rw [if_neg b, if_neg b]
                  have e : rwS (rmY (upS τ 66 5 0) M (drw (drw z))) 67 0 (txN M (pY M z) (grN M (pY M z) (M 1)).toNat) = rmY (upS τ 66 5 0) (txN M (pY M z) (grN M (pY M z) (M 1)).toNat) (drw (drw z)) := rwS_rwS _ _ _ _ _
                  rw [e]
                  exact ih
              · rw [if_neg a] at ih
                rw [if_neg (by omega)]
                refine ⟨_, ctX11_coins (by decide) (rmY_row _ _ _), _, _, ctX11_draw (by decide) hn1, _, ctX11_size (p := pY M z) (by decide) (by omega) hk2.1 (rmY_row _ _ _), ?_⟩
                have hm9 := mN_le hk2.1 (show pY M z < 5 by omega)
                by_cases b : mN M (pY M z) < 9
                · rw [if_pos b] at ih
                  rw [if_neg (by omega)]
                  have hh := hN_le hk2.1 (show pY M z < 5 by omega) (show cY M z < 8 by omega)
                  have hp5 : pY M z < 5 := by omega
                  have hc8 : cY M z < 8 := by omega
                  have hlt : 12 + (8 * pY M z + cY M z) < 181 := by omega
                  have hlt2 : (0 : Int) ≤ ((12 + (8 * pY M z + cY M z) : Nat) : Int) ∧ ((12 + (8 * pY M z + cY M z) : Nat) : Int) < 181 := by omega
                  have hh2 : hN M (pY M z) (cY M z) < 2147483647 := by omega
                  have ew : w32 (w32 (12 + w32 (8 * (drv (drw z) (M 2) : Int))) + (drv (drw (drw (drw z))) (M 1) : Int)) = ((12 + (8 * pY M z + cY M z) : Nat) : Int) := w_hold (p := pY M z) (k := cY M z) hp5 hc8
                  rw [ew, Int.toNat_natCast, rd_hold (p := pY M z) (c := cY M z) hp5 hc8 (rmY_row _ _ _), w32_s hh2]
                  have e : upS (rmY (upS τ 66 5 0) M (drw (drw (drw z)))) 67 (12 + (8 * pY M z + cY M z)) ((hN M (pY M z) (cY M z) + 1 : Nat) : Int) = rmY (upS τ 66 5 0) (updN M (12 + (8 * pY M z + cY M z)) (hN M (pY M z) (cY M z) + 1)) (drw (drw (drw z))) := rwS_up hlt
                  rw [e]
                  exact ⟨hlt2, hlt2, ih⟩
                · rw [if_neg b] at ih
                  rw [if_pos (by omega)]
                  have ih2 := ih
                  rw [show (g + (M, drw (drw (drw z)), (0 : Int)).2.2) = g by show g + 0 = g; omega] at ih2
                  exact ih2
          have := key 0 (Nat.zero_le _)
          have e : rmY (upS τ 66 5 0) (yI N x 0).1 (yI N x 0).2.1 = upS (upS τ 66 5 0) 66 18 x := rwS_id (RowM_ups hM1 (by decide))
          rw [e] at this
          exact this
        · show rwS (upS (upS τ 66 5 0) 66 18 _) 67 0 _ 66 5 = 0
          rw [rwS_cell (by decide), ups_ne (Or.inr (by decide))]
          exact ups_eq
  · refine Or.inr ⟨2, σ, by decide, ?_, ?_⟩
    · refine (eX10_year (d := 6) ?_).mono (by decide)
      intro X Xr Xt hC hr
      refine bX10_year_0 hC ?_
      by_cases c : y < 1
      · rw [if_pos c]; exact hr
      · rw [if_neg c, if_pos (by omega)]; exact hr
    · intro τ ha
      have hM0 := (InvN_ag hQ ha).2.1
      have hM : ∀ v, RowM (upS τ 66 5 v) 67 0 N := fun v => RowM_ups hM0 (by decide)
      refine ⟨0, upS τ 66 5 1, ?_, ups_eq, Inv_fr hI (th_fr ha)⟩
      refine (eX11_year (d := 6) ?_).mono (by decide)
      intro X Xr Xt hC hr
      refine bX11_year_0 hC ?_
      refine ⟨_, ctX11_wi_no (by decide) h, ?_⟩
      rw [if_pos (by decide), ups_eq, if_pos (by decide)]
      exact hr
