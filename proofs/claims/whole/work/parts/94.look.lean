/-! THE SEARCH: what is looked at; the reference's begin -/
def hdB (N : Tn) (a : Nat → Nat) (D : Nat) : Bool := (List.range (N 1)).all (fun c => decide (a c ≤ dg D c))
theorem hdB_t {N : Tn} {a : Nat → Nat} {D : Nat} : hdB N a D = true ↔ ∀ c, c < N 1 → a c ≤ dg D c := by
  unfold hdB
  rw [List.all_eq_true]
  constructor
  · intro h c hc; exact of_decide_eq_true (h c (List.mem_range.mpr hc))
  · intro h c hc; exact decide_eq_true (h c (List.mem_range.mp hc))
theorem hdB_f {N : Tn} {a : Nat → Nat} {D c : Nat} (hc : c < N 1) (h : dg D c < a c) : hdB N a D = false := by
  cases e : hdB N a D with
  | false => rfl
  | true => have := hdB_t.mp e c hc; omega
theorem ctX6_holds {d D : Nat} {N : Tn} {a : Nat → Nat} {σ : Sg} (hd : 2 ≤ d) (h8 : N 1 ≤ 8) (ha : ∀ j, j < 8 → σ 53 j = (a j : Int)) (hz : ∀ j, N 1 ≤ j → a j = 0) : Ct d MX6_holds [iV (w32 (pkc D : Int)), rV 1000008 53] σ (.inl [iV (b01 (hdB N a D))]) σ := by
  refine (eX6_holds (d := 1) ?_).mono hd
  intro X Xr Xt hC hr
  refine bX6_holds_0 hC ?_
  have key : ∀ c : Nat, c ≤ 8 → (∀ e, e < c → e < N 1 → a e ≤ dg D e) → X 2 [iV (w32 (pkc D : Int)), rV 1000008 53, iV (c : Int)] [] σ := by
    refine loop_up (P := fun c : Nat => (∀ e, e < c → e < N 1 → a e ≤ dg D e) → X 2 [iV (w32 (pkc D : Int)), rV 1000008 53, iV (c : Int)] [] σ) ?_ ?_
    · intro h1
      refine bX6_holds_2 hC ?_
      rw [if_neg (by decide)]
      rw [hdB_t.mpr (fun c hc => h1 c (by omega) hc)] at hr
      exact hr
    · intro c hc ih h1
      refine bX6_holds_2 hC ?_
      have o1 := ctX6_often (d := 1) (P := pkc D) (c := c) (σ := σ) (by decide) (pkc_lt D) hc
      rw [pkc_dg D hc] at o1
      rw [if_pos (by omega), if_pos (by omega), Int.toNat_natCast, ha c hc]
      refine ⟨_, o1, by omega, ?_⟩
      by_cases q : dg D c < a c
      · have hcn : c < N 1 := by
          by_cases z : c < N 1
          · exact z
          · have := hz c (by omega); omega
        rw [hdB_f hcn q] at hr
        rw [if_pos (by omega)]
        exact hr
      · rw [if_neg (by omega), w32_s (by omega)]
        refine ih ?_
        intro e h2 h3
        by_cases q2 : e = c
        · rw [q2]; omega
        · exact h1 e (by omega) h3
  exact key 0 (Nat.zero_le _) (fun e he => absurd he (Nat.not_lt_zero e))
theorem ctX11_isAsked {d D : Nat} {N : Tn} {a : Nat → Nat} {τ : Sg} (hd : 2 ≤ d) (h8 : N 1 ≤ 8) (hD : D < 10 ^ 8) (hM : RowM τ 67 0 N) (ha : ∀ j, j < 8 → τ 73 j = (a j : Int)) : Ct d MX11_isAsked [rV 20 66, iV (D : Int)] τ (.inl [iV (b01 (hdB N a D))]) τ := by
  refine (eX11_isAsked (d := 1) ?_).mono hd
  intro X Xr Xt hC hr
  refine bX11_isAsked_0 hC ?_
  have key : ∀ c : Nat, c ≤ N 1 → (∀ e, e < c → a e ≤ dg D e) → X 2 [rV 20 66, iV (D : Int), iV (c : Int)] [] τ := by
    refine loop_up (P := fun c : Nat => (∀ e, e < c → a e ≤ dg D e) → X 2 [rV 20 66, iV (D : Int), iV (c : Int)] [] τ) ?_ ?_
    · intro h1
      refine bX11_isAsked_2 hC ?_
      refine ⟨_, ctX11_coins (by decide) hM, ?_⟩
      rw [if_neg (by omega)]
      rw [hdB_t.mpr h1] at hr
      exact hr
    · intro c hc ih h1
      refine bX11_isAsked_2 hC ?_
      refine ⟨_, ctX11_coins (by decide) hM, ?_⟩
      rw [if_pos (by omega)]
      refine ⟨_, ctX11_ten (by decide) (by omega), ten_pos c, by omega, ?_⟩
      rw [ten_dg hD, Int.toNat_natCast, ha c (by omega)]
      by_cases q : dg D c < a c
      · rw [hdB_f hc q] at hr
        rw [if_pos (by omega)]
        exact hr
      · rw [if_neg (by omega), w32_s (by omega)]
        refine ih ?_
        intro e h2
        by_cases q2 : e = c
        · rw [q2]; omega
        · exact h1 e (by omega)
  exact key 0 (Nat.zero_le _) (fun e he => absurd he (Nat.not_lt_zero e))
/-- does one of r purses from i on hold it -/
def anH (N : Tn) (a : Nat → Nat) (M : Nat → Nat) : Nat → Nat → Bool
  | 0, _ => false
  | r + 1, i => hdB N a (M i) || anH N a M r (i + 1)
theorem anH_s (N : Tn) (a M : Nat → Nat) (r i : Nat) : anH N a M (r + 1) i = (hdB N a (M i) || anH N a M r (i + 1)) := rfl
set_option maxRecDepth 20000 in
theorem ctX6_newHolds {d f : Nat} {N : Tn} {a : Nat → Nat} {S : Qs} {σ : Sg} (hd : 3 ≤ d) (h8 : N 1 ≤ 8) (hC0 : CR N σ S) (hf : σ 57 1 = (f : Int)) (hfS : f ≤ S.2) (hn : S.2 ≤ 24000) (ha : ∀ j, j < 8 → σ 53 j = (a j : Int)) (hz : ∀ j, N 1 ≤ j → a j = 0) : Ct d MX6_newOneHolds [rV 15 57, rV 1000008 53] σ (.inl [iV (b01 (anH N a S.1 (S.2 - f) f))]) σ := by
  refine (eX6_newOneHolds (d := 2) ?_).mono hd
  intro X Xr Xt hC hr
  refine bX6_newOneHolds_0 hC ?_
  rw [hf]
  have key : ∀ r i : Nat, i + r = S.2 → Xr [iV (b01 (anH N a S.1 r i))] σ → X 5 [rV 15 57, rV 1000008 53, iV (i : Int)] [] σ := by
    intro r
    induction r with
    | zero =>
      intro i hi hx
      have hi : i = S.2 := hi
      refine bX6_newOneHolds_5 hC ?_
      rw [hC0.1, if_neg (by omega)]
      exact hx
    | succ r ih =>
      intro i hi hx
      rw [anH_s] at hx
      refine bX6_newOneHolds_5 hC ?_
      rw [hC0.1, if_pos (by omega), if_pos (by omega), Int.toNat_natCast, hC0.2.1 i (by omega)]
      refine ⟨by omega, _, ctX6_holds (by decide) h8 ha hz, ?_⟩
      cases q : hdB N a (S.1 i) with
      | true =>
        rw [q, Bool.true_or] at hx
        rw [if_neg (by decide)]
        exact hx
      | false =>
        rw [q, Bool.false_or] at hx
        rw [if_pos (by decide), w32_s (by omega)]
        exact ih (i + 1) (by omega) hx
  exact key (S.2 - f) f (by omega) hr
/-- the worth of a code, and the greatest of r from f on -/
def wD (N : Tn) (D : Nat) : Nat := prodN (fun c => N (4 + c) ^ dg D c) (N 1)
def mxR (N : Tn) (M : Nat → Nat) (f : Nat) : Nat → Nat
  | 0 => 0
  | r + 1 => max (mxR N M f r) (wD N (M (f + r)))
theorem mxR_s (N : Tn) (M : Nat → Nat) (f r : Nat) : mxR N M f (r + 1) = max (mxR N M f r) (wD N (M (f + r))) := rfl
theorem mxR_add (N : Tn) (M : Nat → Nat) (f : Nat) : ∀ r, max (mxR N M 0 f) (mxR N M f r) = mxR N M 0 (f + r) := by
  intro r
  induction r with
  | zero => rw [Nat.add_zero]; show max (mxR N M 0 f) 0 = _; omega
  | succ r ih => rw [← Nat.add_assoc, mxR_s, mxR_s, ← ih, Nat.zero_add, Nat.max_assoc]
theorem mxR_congr {N : Tn} {M K : Nat → Nat} : ∀ r, (∀ i, i < r → M i = K i) → mxR N M 0 r = mxR N K 0 r := by
  intro r
  induction r with
  | zero => intro _; rfl
  | succ r ih => intro h; rw [mxR_s, mxR_s, ih (fun i hi => h i (by omega)), Nat.zero_add, h r (by omega)]
theorem wD_part {N : Tn} (hW : WFN N) {D : Nat} (hD : okD N D) {j : Nat} (hj : j ≤ N 1) : prodN (fun c => N (4 + c) ^ dg D c) j ≤ 760231058654565217 := wN_part hW hj (Nat.le_trans (sumN_mono hW.1.1) hD.2.2)
theorem mxR_le {N : Tn} (hW : WFN N) {S : Qs} (hV : VS N S) {f : Nat} : ∀ r, f + r ≤ S.2 → mxR N S.1 f r ≤ 760231058654565217 := by
  intro r
  induction r with
  | zero => intro _; exact Nat.zero_le _
  | succ r ih =>
    intro h
    rw [mxR_s]
    have h1 := ih (by omega)
    have h2 : wD N (S.1 (f + r)) ≤ 760231058654565217 := wD_part hW (hV (f + r) (by omega)) (Nat.le_refl _)
    omega
set_option maxRecDepth 20000 in
theorem ctX6_dearest {d f : Nat} {N : Tn} {S : Qs} {σ : Sg} (hd : 3 ≤ d) (hW : WFN N) (hV : VS N S) (hC0 : CR N σ S) (hR : RowT σ 7 N) (hf : σ 57 1 = (f : Int)) (hfS : f ≤ S.2) (hn : S.2 ≤ 24000) : Ct d MX6_dearestNew [rV 15 57, rV 17 7] σ (.inl [lV (mxR N S.1 f (S.2 - f) : Int)]) σ := by
  have h8 := hW.1.1
  refine (eX6_dearestNew (d := 2) ?_).mono hd
  intro X Xr Xt hC hr
  refine bX6_dearestNew_0 hC ?_
  rw [hf]
  have key : ∀ r : Nat, r ≤ S.2 - f → X 8 [rV 15 57, rV 17 7, lV (mxR N S.1 f r : Int), uV, iV ((f + r : Nat) : Int), uV, uV, uV] [] σ := by
    refine loop_up (P := fun r : Nat => X 8 [rV 15 57, rV 17 7, lV (mxR N S.1 f r : Int), uV, iV ((f + r : Nat) : Int), uV, uV, uV] [] σ) ?_ ?_
    · refine bX6_dearestNew_8 hC ?_
      rw [hC0.1, if_neg (by omega)]
      exact hr
    · intro r hr2 ih
      refine bX6_dearestNew_8 hC ?_
      have hD := hV (f + r) (by omega)
      have q58 := hC0.2.1 (f + r) (by omega)
      rw [hC0.1, if_pos (by omega), if_pos (by omega)]
      have key2 : ∀ c : Nat, c ≤ N 1 → ∀ y : Nat, y = prodN (fun c => N (4 + c) ^ dg (S.1 (f + r)) c) c → X 31 [rV 15 57, rV 17 7, lV (mxR N S.1 f r : Int), uV, iV ((f + r : Nat) : Int), lV (y : Int), uV, iV (c : Int)] [] σ := by
        refine loop_up (P := fun c : Nat => ∀ y : Nat, y = prodN (fun c => N (4 + c) ^ dg (S.1 (f + r)) c) c → X 31 [rV 15 57, rV 17 7, lV (mxR N S.1 f r : Int), uV, iV ((f + r : Nat) : Int), lV (y : Int), uV, iV (c : Int)] [] σ) ?_ ?_
        · intro y hy
          refine bX6_dearestNew_31 hC ?_
          rw [hR.1 1 (by decide), if_neg (by omega), w32_s (by omega), max_nat]
          have e : max (mxR N S.1 f r) y = mxR N S.1 f (r + 1) := by rw [mxR_s, hy]; rfl
          rw [e]
          exact ih
        · intro c hc ihc y hy
          refine bX6_dearestNew_31 hC ?_
          have hq := hW.2.1 c hc
          have hdl : dg (S.1 (f + r)) c ≤ 9 := dg_le
          have o1 := ctX6_often (d := 2) (P := pkc (S.1 (f + r))) (c := c) (σ := σ) (by decide) (pkc_lt _) (by omega)
          rw [pkc_dg _ (by omega)] at o1
          have hpw := pow_le9 hq.2.2 hdl
          have hb := wD_part hW hD (show c + 1 ≤ N 1 from hc)
          rw [prodN_s, ← hy] at hb
          rw [hR.1 1 (by decide), if_pos (by omega), Int.toNat_natCast, q58]
          refine ⟨_, ctX8_primeOf (by decide) hW hc hR, by omega, _, o1, _, ctX3_whole (by decide) (by omega) (by omega) (by omega), ?_⟩
          rw [← Int.natCast_mul, w64_n (by omega), w32_s (by omega)]
          exact ihc _ (by rw [prodN_s, ← hy])
      exact key2 0 (Nat.zero_le _) 1 rfl
  exact key 0 (Nat.zero_le _)
theorem ctX11_worthBy {d D : Nat} {N : Tn} {τ : Sg} (hd : 2 ≤ d) (hW : WFN N) (hD : okD N D) (hM : RowM τ 67 0 N) : Ct d MX11_worthBy [rV 20 66, iV (D : Int)] τ (.inl [lV (wD N D : Int)]) τ := by
  have h8 := hW.1.1
  refine (eX11_worthBy (d := 1) ?_).mono hd
  intro X Xr Xt hC hr
  refine bX11_worthBy_0 hC ?_
  have key : ∀ c : Nat, c ≤ N 1 → X 5 [rV 20 66, iV (D : Int), lV (prodN (fun c => N (4 + c) ^ dg D c) c : Int), uV, iV (c : Int), uV] [] τ := by
    refine loop_up (P := fun c : Nat => X 5 [rV 20 66, iV (D : Int), lV (prodN (fun c => N (4 + c) ^ dg D c) c : Int), uV, iV (c : Int), uV] [] τ) ?_ ?_
    · refine bX11_worthBy_5 hC ?_
      refine ⟨_, ctX11_coins (by decide) hM, ?_⟩
      rw [if_neg (by omega)]
      exact hr
    · intro c hc ih
      refine bX11_worthBy_5 hC ?_
      refine ⟨_, ctX11_coins (by decide) hM, ?_⟩
      rw [if_pos (by omega)]
      refine ⟨_, ctX11_ten (by decide) (by omega), ten_pos c, ?_⟩
      rw [ten_dg hD.1]
      have hq := hW.2.1 c hc
      have hb := wD_part hW hD (show c + 1 ≤ N 1 from hc)
      rw [prodN_s] at hb
      have hdl : dg D c ≤ 9 := dg_le
      have key2 : ∀ g e : Nat, e + g = dg D c → ∀ y : Nat, y = prodN (fun c => N (4 + c) ^ dg D c) c * N (4 + c) ^ e → X 26 [rV 20 66, iV (D : Int), lV (y : Int), uV, iV (c : Int), iV (g : Int)] [] τ := by
        intro g
        induction g with
        | zero =>
          intro e he y hy
          have he : e = dg D c := he
          refine bX11_worthBy_26 hC ?_
          rw [if_neg (by omega), w32_s (by omega), hy, he]
          exact ih
        | succ g ihg =>
          intro e he y hy
          refine bX11_worthBy_26 hC ?_
          have e2 : y * N (4 + c) = prodN (fun c => N (4 + c) ^ dg D c) c * N (4 + c) ^ (e + 1) := by rw [hy, Nat.mul_assoc]; rfl
          have hm : prodN (fun c => N (4 + c) ^ dg D c) c * N (4 + c) ^ (e + 1) ≤ prodN (fun c => N (4 + c) ^ dg D c) c * N (4 + c) ^ dg D c := Nat.mul_le_mul_left _ (Nat.pow_le_pow_right (by omega) (by omega))
          have e3 : w32 (((g + 1 : Nat) : Int) + -1) = (g : Int) := by
            rw [show ((g + 1 : Nat) : Int) + -1 = (g : Int) by omega]
            exact w32_n (by omega)
          rw [if_pos (by clear e3; omega), e3]
          clear e3
          refine ⟨_, ctX11_prime (by decide) (by omega) hM, ?_⟩
          rw [← Int.natCast_mul, w64_n (by omega)]
          exact ihg (e + 1) (by omega) _ e2
      exact key2 (dg D c) 0 (Nat.zero_add _) _ (by rw [Nat.pow_zero, Nat.mul_one])
  exact key 0 (Nat.zero_le _)
set_option maxRecDepth 20000 in
theorem ctX11_beginsMet {d p : Nat} {N : Tn} {τ : Sg} (hd : 3 ≤ d) (hW : WFN N) (hp : p < N 2) (hM : RowM τ 67 0 N) : ∃ τ1, Ct d MX11_beginsMet [rV 20 66, iV (p : Int)] τ (.inl []) τ1 ∧ RR τ1 (S0 N p) ∧ FN τ τ1 := by
  have h5 := hW.1.2.1
  have h8 := hW.1.1
  have hp5 : p < 5 := by omega
  obtain ⟨hD, _⟩ := D0_ok hW hp5
  obtain ⟨μ, hμ⟩ : ∃ μ, μ = upS (flS τ 76 32768 0) 66 23 0 := ⟨_, rfl⟩
  have m76 : ∀ s, s < 32768 → μ 76 s = 0 := fun s hs => by rw [hμ, ups_cell (by decide), flS_in hs]
  have fm : FN τ μ := ⟨fun b h1 _ h3 => by rw [hμ, ups_cell h1, flS_cell h3], fun j hj => by rw [hμ, ups_ne (Or.inr hj), flS_cell (by decide)]⟩
  have hMμ : RowM μ 67 0 N := RowM_cell hM (fm.1 67 (by decide) (by decide) (by decide))
  have nz0 : ∀ m, m ≤ 32768 → nz μ m = 0 := by
    intro m
    induction m with
    | zero => intro _; rfl
    | succ m ih =>
      intro hm
      show nz μ m + (if μ 76 m = 0 then 0 else 1) = 0
      rw [ih (by omega), if_pos (m76 m (by omega))]
  have rr0 : RR μ ((fun _ => 0), 0) := ⟨by rw [hμ, ups_eq]; rfl, fun i hi => absurd hi (Nat.not_lt_zero i), fun i hi => absurd hi (Nat.not_lt_zero i), fun s hs hne => absurd (m76 s hs) hne, nz0 32768 (Nat.le_refl _)⟩
  obtain ⟨τ1, e1, e2, e3⟩ := ctX11_meets (d := 2) (by decide) hD.1 rr0 (by show 0 < 24000; decide)
  refine ⟨τ1, ?_, e2, fm.trans e3⟩
  refine (eX11_beginsMet (d := 2) ?_).mono hd
  intro X Xr Xt hC hr
  refine bX11_beginsMet_0 hC ?_
  have key2 : ∀ c : Nat, c ≤ N 1 → X 30 [rV 20 66, iV (p : Int), iV (cdB 10 (hN N p) c : Int), iV (c : Int)] [] μ := by
    refine loop_up (P := fun c : Nat => X 30 [rV 20 66, iV (p : Int), iV (cdB 10 (hN N p) c : Int), iV (c : Int)] [] μ) ?_ ?_
    · refine bX11_beginsMet_30 hC ?_
      refine ⟨_, ctX11_coins (by decide) hMμ, ?_⟩
      rw [if_neg (by omega)]
      have e : cdB 10 (hN N p) (N 1) = D0 N p := (cdB_lo h8 (fun c a b => hW.2.2.2.2.1 p c hp5 b (Or.inr a))).symm
      rw [e]
      exact ⟨_, e1, hr⟩
    · intro c hc ih
      refine bX11_beginsMet_30 hC ?_
      refine ⟨_, ctX11_coins (by decide) hMμ, ?_⟩
      rw [if_pos (by omega)]
      refine ⟨_, ctX11_of (by decide) hp5 (by omega) hMμ, _, ctX11_ten (by decide) (by omega), ?_⟩
      have hl := (cdB_ok (B := 10) (by decide) (c + 1) (fun e he => Nat.lt_of_le_of_lt (hN_le hW hp5 (show e < 8 by omega)) (by decide))).1
      have hl2 : cdB 10 (hN N p) (c + 1) < 100000000 := Nat.lt_of_lt_of_le hl (Nat.pow_le_pow_right (by decide) (show c + 1 ≤ 8 by omega))
      rw [cdB_s] at hl2
      rw [← Int.natCast_mul, w32_n (show hN N p c * 10 ^ c < 2147483648 by omega), ← Int.natCast_add, w32_n (show cdB 10 (hN N p) c + hN N p c * 10 ^ c < 2147483648 by omega), w32_s (by omega)]
      exact ih
  have key : ∀ k : Nat, k ≤ 32768 → X 2 [rV 20 66, iV (p : Int), iV (k : Int), uV] [] (flS τ 76 k 0) := by
    refine loop_up (P := fun k : Nat => X 2 [rV 20 66, iV (p : Int), iV (k : Int), uV] [] (flS τ 76 k 0)) ?_ ?_
    · refine bX11_beginsMet_2 hC ?_
      rw [if_neg (by decide), ← hμ]
      exact key2 0 (Nat.zero_le _)
    · intro k hk ih
      refine bX11_beginsMet_2 hC ?_
      rw [if_pos (by omega), Int.toNat_natCast, flS_s, w32_s (by omega)]
      exact ⟨by omega, ih⟩
  have := key 0 (Nat.zero_le _)
  rw [flS_0] at this
  exact this
