/-! FITTING, the class: rows of coins in cell 64 -/
def nxF (K : Nat) (c : Nat → Nat) : Nat → Option Nat
  | 0 => none
  | j + 1 => if c j + 1 < K then some j else nxF K c j
theorem nxF_s (K : Nat) (c : Nat → Nat) (j : Nat) : nxF K c (j + 1) = if c j + 1 < K then some j else nxF K c j := rfl
/-- what the next row is, if there is one -/
theorem nxF_ok {N : Tn} {n : Nat} {c : Nat → Nat} : ∀ j, j ≤ n → (nxF (N 1) c j = none → rsL N n c j = []) ∧ (∀ u, nxF (N 1) c j = some u → u < j ∧ c u + 1 < N 1 ∧ rsL N n c j = rsL N n c (u + 1)) := by
  intro j
  induction j with
  | zero => intro _; exact ⟨fun _ => rfl, fun u h => (by cases h)⟩
  | succ j ih =>
    intro hj
    have ih := ih (by omega)
    rw [nxF_s]
    by_cases q : c j + 1 < N 1
    · rw [if_pos q]
      refine ⟨fun h => (by cases h), fun u h => ?_⟩
      have e : j = u := Option.some.inj h
      rw [← e]
      exact ⟨by omega, q, rfl⟩
    · rw [if_neg q]
      have e : rsL N n c (j + 1) = rsL N n c j := by
        rw [rsL_s, show n - j = (n - j - 1) + 1 by omega, bgL_e (by omega)]
        rfl
      rw [e]
      exact ⟨ih.1, fun u h => by have := ih.2 u h; exact ⟨by omega, this.2⟩⟩
def rwO (c : Nat → Nat) (u : Nat) : Nat → Nat := fun i => if i < u then c i else c u + 1
theorem ctX0_raise {d u f : Nat} {σ : Sg} (hd : 1 ≤ d) (hu : u < 4) : Ct d MX0_raiseFrom [rV 10 63, iV (u : Int), iV (f : Int)] σ (.inl []) (soS σ 64 u (4 - u) (fun _ => (f : Int))) := by
  refine (eX0_raiseFrom (d := 0) ?_).mono hd
  intro X Xr Xt hC hr
  refine bX0_raiseFrom_0 hC ?_
  rw [show max (u : Int) 0 = (u : Int) by omega]
  have key : ∀ k, k ≤ 4 - u → X 6 [rV 10 63, iV (u : Int), iV (f : Int), iV ((u + k : Nat) : Int)] [] (soS σ 64 u k (fun _ => (f : Int))) := by
    refine loop_up (P := fun k => X 6 [rV 10 63, iV (u : Int), iV (f : Int), iV ((u + k : Nat) : Int)] [] (soS σ 64 u k (fun _ => (f : Int)))) ?_ ?_
    · refine bX0_raiseFrom_6 hC ?_
      rw [if_neg (by omega)]
      exact hr
    · intro k hk ih
      refine bX0_raiseFrom_6 hC ?_
      have hss := soS_s σ 64 u k (fun _ => (f : Int))
      rw [if_pos (by omega), Int.toNat_natCast, hss, w32_s (by omega)]
      exact ⟨by omega, ih⟩
  have := key 0 (Nat.zero_le _)
  rw [soS_0] at this
  exact this
def cw (σ : Sg) (c : Nat → Nat) : Prop := ∀ i, i < 4 → σ 64 i = (c i : Int)
/-- the next row: whether there is one, and the memory then -/
def nxR (K n : Nat) (c : Nat → Nat) (b : Int) (σ1 : Sg) : Prop := (b = 0 ∧ nxF K c n = none) ∨ (b = 1 ∧ ∃ u, nxF K c n = some u ∧ cw σ1 (rwO c u))
theorem ctX0_nextRow {d n K : Nat} {c : Nat → Nat} {σ : Sg} (hd : 2 ≤ d) (hn : 1 ≤ n ∧ n ≤ 4) (hK : K ≤ 8) (hc : cw σ c) (hcK : ∀ i, i < 4 → c i < K) : ∃ b σ1, Ct d MX0_nextRow [rV 10 63, iV (K : Int), iV (n : Int)] σ (.inl [iV b]) σ1 ∧ (∀ b, b ≠ 64 → σ1 b = σ b) ∧ nxR K n c b σ1 := by
  have key : ∀ j, j ≤ n → ∃ b σ1, (∀ (X : Nat → List Vv → List Vv → Sg → Prop) (Xr : List Vv → Sg → Prop) (Xt : Nat → Sg → Prop), Clo (Ct 1) 0 cX0_nextRow (some .boolean) X Xr Xt → Xr [iV b] σ1 → X 8 [rV 10 63, iV (K : Int), iV (n : Int), iV ((j : Int) - 1)] [] σ) ∧ (∀ b, b ≠ 64 → σ1 b = σ b) ∧ nxR K j c b σ1 := by
    intro j
    induction j with
    | zero =>
      intro _
      refine ⟨0, σ, ?_, fun _ _ => rfl, Or.inl ⟨rfl, rfl⟩⟩
      intro X Xr Xt hC hr
      refine bX0_nextRow_8 hC ?_
      rw [if_pos (by omega)]
      exact hr
    | succ j ih =>
      intro hj
      obtain ⟨b, σ1, i1, i2, i3⟩ := ih (by omega)
      have hs := nxF_s K c j
      have hcj := hc j (by omega)
      have hcb := hcK j (by omega)
      have ej : ((j + 1 : Nat) : Int) - 1 = (j : Int) := by omega
      by_cases q : c j + 1 < K
      · rw [if_pos q] at hs
        refine ⟨1, soS σ 64 j (4 - j) (fun _ => ((c j + 1 : Nat) : Int)), ?_, fun b hb => soS_cell hb, Or.inr ⟨rfl, j, hs, ?_⟩⟩
        · intro X Xr Xt hC hr
          refine bX0_nextRow_8 hC ?_
          rw [ej, if_neg (by omega), Int.toNat_natCast, hcj, w32_s (by omega), if_pos (by omega)]
          exact ⟨by omega, by omega, _, ctX0_raise (by decide) (by omega), hr⟩
        · intro i hi
          unfold rwO
          by_cases w : i < j
          · rw [if_pos w, soS_out (by omega)]; exact hc i hi
          · rw [if_neg w]
            have := soS_in (σ := σ) (a := 64) (off := j) (F := fun _ => ((c j + 1 : Nat) : Int)) (show i - j < 4 - j by omega)
            rw [show j + (i - j) = i by omega] at this
            exact this
      · rw [if_neg q] at hs
        refine ⟨b, σ1, ?_, i2, ?_⟩
        · intro X Xr Xt hC hr
          refine bX0_nextRow_8 hC ?_
          rw [ej, if_neg (by omega), Int.toNat_natCast, hcj, w32_s (by omega), if_neg (by omega), show w32 ((j : Int) + -1) = (j : Int) - 1 by clear hcj hcb hc i1 i2 i3 ih hr hs; unfold w32; omega]
          exact ⟨by omega, i1 X Xr Xt hC hr⟩
        · unfold nxR
          rw [hs]
          exact i3
  obtain ⟨b, σ1, i1, i2, i3⟩ := key n (Nat.le_refl n)
  refine ⟨b, σ1, ?_, i2, i3⟩
  refine (eX0_nextRow (d := 1) ?_).mono hd
  intro X Xr Xt hC hr
  refine bX0_nextRow_0 hC ?_
  rw [show min (n : Int) 4 = (n : Int) by omega, w_p1 (by omega)]
  exact i1 X Xr Xt hC hr
theorem pcN_le {N : Tn} (hW : WFN N) {c : Nat → Nat} (hc : ∀ i, i < 4 → c i < N 1) : ∀ j, j ≤ 4 → pcN N c j ≤ 88529281 := by
  intro j hj
  have : pcN N c j ≤ 97 ^ j := by
    have : ∀ j, j ≤ 4 → pcN N c j ≤ 97 ^ j := by
      intro j
      induction j with
      | zero => intro _; exact Nat.le_refl 1
      | succ j ih =>
        intro hj
        rw [Nat.pow_succ]
        exact Nat.mul_le_mul (ih (by omega)) (hW.2.1 (c j) (hc j (by omega))).2.2
    exact this j hj
  have h2 : 97 ^ j ≤ 97 ^ 4 := Nat.pow_le_pow_right (by decide) hj
  exact Nat.le_trans this (Nat.le_trans h2 (by decide))
theorem ctX0_productOf {d n t : Nat} {N : Tn} {c : Nat → Nat} {σ : Sg} (hd : 2 ≤ d) (hW : WFN N) (hn : n ≤ 4) (hR : RowT σ t N) (hc : cw σ c) (hcK : ∀ i, i < 4 → c i < N 1) : Ct d MX0_productOf [rV 10 63, rV 17 t, iV (n : Int)] σ (.inl [lV (pcN N c n : Int)]) σ := by
  refine (eX0_productOf (d := 1) ?_).mono hd
  intro X Xr Xt hC hr
  refine bX0_productOf_0 hC ?_
  have key : ∀ j, j ≤ n → X 5 [rV 10 63, rV 17 t, iV (n : Int), lV (pcN N c j : Int), uV, iV (j : Int)] [] σ := by
    refine loop_up (P := fun j => X 5 [rV 10 63, rV 17 t, iV (n : Int), lV (pcN N c j : Int), uV, iV (j : Int)] [] σ) ?_ ?_
    · refine bX0_productOf_5 hC ?_
      rw [if_neg (by omega)]
      exact hr
    · intro j hj ih
      refine bX0_productOf_5 hC ?_
      have hb := pcN_le hW hcK (j + 1) (by omega)
      have e : pcN N c (j + 1) = pcN N c j * N (4 + c j) := rfl
      rw [if_pos (by omega), if_pos (by omega), Int.toNat_natCast, hc j (by omega)]
      refine ⟨by omega, _, ctX8_primeOf (by decide) hW (hcK j (by omega)) hR, ?_⟩
      rw [← Int.natCast_mul, ← e, w64_n (by omega), w32_s (by omega)]
      exact ih
  exact key 0 (Nat.zero_le _)
theorem ite_sm {c P : Prop} {d : Decidable c} (h : P) : @ite Prop c d P P := by
  cases d with
  | isTrue _ => exact h
  | isFalse _ => exact h
/-- the class's answer over a list of products from found on -/
def skV (ft : Nat → Bool) (k : Int) : List Nat → Nat → Int
  | [], f => if k = -1 then (f : Int) else -1
  | v :: l, f => if ft v = true then (if (f : Int) = k then (v : Int) else skV ft k l (f + 1)) else skV ft k l f
set_option maxRecDepth 20000 in
theorem ctX0_seek {d n i m : Nat} {k : Int} {N : Tn} {Z : Nat → Int} {σ : Sg} (hd : 3 ≤ d) (hW : WFN N) (hn : 1 ≤ n ∧ n ≤ 4) (hR : RowT σ 7 N) (hi : i ≠ 64 ∧ i + 1 ≠ 64) (hm : σ i 1 = (m : Int)) (h30 : m ≤ 30) (hZ : ∀ j, j < 30 → σ (i + 1) j = Z j) (hv : vdA Z m) : ∃ σ1, Ct d MX0_seek [rV 10 63, rV 17 7, rV 18 i, iV (n : Int), iV k] σ (.inl [lV (skV (ftB Z m) k (bgL N n 0 1) 0)]) σ1 ∧ (∀ b, b ≠ 64 → σ1 b = σ b) := by
  have h8 := hW.1.1
  have key : ∀ g x f (c : Nat → Nat) (μ : Sg), x + g = 330 → f ≤ x → (∀ b, b ≠ 64 → μ b = σ b) → cw μ c → (∀ i, i < 4 → c i < N 1) → (rsL N n c n).length + 1 ≤ g → ∃ σ1, (∀ (X : Nat → List Vv → List Vv → Sg → Prop) (Xr : List Vv → Sg → Prop) (Xt : Nat → Sg → Prop), Clo (Ct 2) 0 cX0_seek (some .long) X Xr Xt → Xr [lV (skV (ftB Z m) k (pcN N c n :: rsL N n c n) f)] σ1 → X 28 [rV 10 63, rV 17 7, rV 18 i, iV (n : Int), iV k, iV (f : Int), iV 1, iV (x : Int), uV, uV] [] μ) ∧ (∀ b, b ≠ 64 → σ1 b = σ b) := by
    intro g
    induction g with
    | zero => intro x f c μ _ _ _ _ _ hl; omega
    | succ g ih =>
      intro x f c μ hx hf hμ hc hcK hl
      have hRm : RowT μ 7 N := RowT_fr hR (fun j hj => hμ _ (by omega))
      have hmm : μ i 1 = (m : Int) := by rw [hμ i hi.1]; exact hm
      have hZm : ∀ j, j < 30 → μ (i + 1) j = Z j := fun j hj => by rw [hμ _ hi.2]; exact hZ j hj
      obtain ⟨bb, μ1, n1, n2, n3⟩ := ctX0_nextRow (d := 2) (n := n) (K := N 1) (by decide) hn h8 hc hcK
      have hμ1 : ∀ b, b ≠ 64 → μ1 b = σ b := fun b hb => by rw [n2 b hb]; exact hμ b hb
      have hnx := nxF_ok (N := N) (n := n) (c := c) n (Nat.le_refl n)
      -- what stands behind this row
      have tailE : ∀ f2, f2 ≤ x + 1 → ∃ σ1, (∀ (X : Nat → List Vv → List Vv → Sg → Prop) (Xr : List Vv → Sg → Prop) (Xt : Nat → Sg → Prop), Clo (Ct 2) 0 cX0_seek (some .long) X Xr Xt → Xr [lV (skV (ftB Z m) k (rsL N n c n) f2)] σ1 → X 28 [rV 10 63, rV 17 7, rV 18 i, iV (n : Int), iV k, iV (f2 : Int), iV bb, iV ((x + 1 : Nat) : Int), uV, uV] [] μ1) ∧ (∀ b, b ≠ 64 → σ1 b = σ b) := by
        intro f2 hf2
        rcases n3 with ⟨hb0, hq⟩ | ⟨hb1, u, hq, hcw⟩
        · rw [hnx.1 hq]
          refine ⟨μ1, ?_, hμ1⟩
          intro X Xr Xt hC hr
          refine bX0_seek_28 hC ?_
          have hr : Xr [lV (if k = -1 then (f2 : Int) else -1)] μ1 := hr
          have both : (if k = -1 then Xr [lV (f2 : Int)] μ1 else Xr [lV (-1)] μ1) := by
            by_cases w : k = -1
            · rw [if_pos w] at hr ⊢; exact hr
            · rw [if_neg w] at hr ⊢; exact hr
          rw [if_pos hb0]
          exact ite_sm both
        · obtain ⟨u1, u2, u3⟩ := hnx.2 u hq
          have hrr := rs_raise (N := N) (n := n) (j0 := u) (f := c u + 1) (c := c) (e := rwO c u) u1 u2 rfl (fun i hi => if_pos hi) (fun i hi => if_neg (by omega))
          rw [u3, hrr]
          have hlen : (rsL N n (rwO c u) n).length + 1 ≤ g := by
            have e : (rsL N n c n).length = (rsL N n (rwO c u) n).length + 1 := by rw [u3, hrr]; rfl
            omega
          obtain ⟨σ1, s1, s2⟩ := ih (x + 1) f2 (rwO c u) μ1 (by omega) hf2 hμ1 hcw (fun i hi => by unfold rwO; split; exact hcK i hi; exact u2) hlen
          refine ⟨σ1, ?_, s2⟩
          intro X Xr Xt hC hr
          rw [hb1]
          exact s1 X Xr Xt hC hr
      have hpo := ctX0_productOf (d := 2) (t := 7) (by decide) hW hn.2 hRm hc hcK
      have har := ctX9_allRests (d := 2) (i := i) (v := pcN N c n) (by decide) hmm h30 hZm hv
      by_cases a : ftB Z m (pcN N c n) = true
      · by_cases b : (f : Int) = k
        · refine ⟨μ, ?_, hμ⟩
          intro X Xr Xt hC hr
          refine bX0_seek_28 hC ?_
          rw [if_pos (by omega), if_neg (by decide)]
          refine ⟨_, hpo, _, har, ?_⟩
          rw [a, if_neg (by decide), if_pos b]
          have e : skV (ftB Z m) k (pcN N c n :: rsL N n c n) f = (pcN N c n : Int) := by unfold skV; rw [if_pos a, if_pos b]
          rw [e] at hr
          exact hr
        · obtain ⟨σ1, s1, s2⟩ := tailE (f + 1) (by omega)
          refine ⟨σ1, ?_, s2⟩
          intro X Xr Xt hC hr
          refine bX0_seek_28 hC ?_
          rw [if_pos (by omega), if_neg (by decide)]
          refine ⟨_, hpo, _, har, ?_⟩
          rw [a, if_neg (by decide), if_neg b]
          refine ⟨_, _, by rw [hRm.1 1 (by decide)]; exact n1, ?_⟩
          rw [w32_s (show f < 2147483647 by omega), w32_s (show x < 2147483647 by omega)]
          refine s1 X Xr Xt hC ?_
          have e : skV (ftB Z m) k (pcN N c n :: rsL N n c n) f = skV (ftB Z m) k (rsL N n c n) (f + 1) := by
            show (if ftB Z m (pcN N c n) = true then _ else _) = _
            rw [if_pos a, if_neg b]
          rw [e] at hr
          exact hr
      · obtain ⟨σ1, s1, s2⟩ := tailE f (by omega)
        refine ⟨σ1, ?_, s2⟩
        intro X Xr Xt hC hr
        refine bX0_seek_28 hC ?_
        rw [if_pos (by omega), if_neg (by decide)]
        refine ⟨_, hpo, _, har, ?_⟩
        rw [Bool.eq_false_iff.mpr a, if_pos (by decide)]
        refine ⟨_, _, by rw [hRm.1 1 (by decide)]; exact n1, ?_⟩
        rw [w32_s (show x < 2147483647 by omega)]
        refine s1 X Xr Xt hC ?_
        have e : skV (ftB Z m) k (pcN N c n :: rsL N n c n) f = skV (ftB Z m) k (rsL N n c n) f := by
          show (if ftB Z m (pcN N c n) = true then _ else _) = _
          rw [if_neg a]
        rw [e] at hr
        exact hr
  have hR1 : RowT (flS σ 64 4 0) 7 N := RowT_fr hR (fun j hj => flS_cell (by omega))
  by_cases z : 0 < N 1
  · have hf := rs_first (N := N) (n := n) (e := fun _ => 0) z (fun _ => rfl)
    have hlen := bgL_len (N := N) n (N 1) 0 1 (by omega)
    have hlb := lb_le ⟨n, by omega⟩ ⟨N 1, by omega⟩
    have hlen2 : (rsL N n (fun _ => 0) n).length + 1 ≤ 330 := by
      rw [hf] at hlen
      have e : (pcN N (fun _ => 0) n :: rsL N n (fun _ => 0) n).length = (rsL N n (fun _ => 0) n).length + 1 := rfl
      rw [e] at hlen
      have hlb : lb n (N 1) ≤ 330 := hlb
      omega
    obtain ⟨σ1, s1, s2⟩ := key 330 0 0 (fun _ => 0) (flS σ 64 4 0) rfl (Nat.le_refl 0) (fun b hb => flS_cell hb) (fun i hi => flS_in hi) (fun i _ => z) hlen2
    refine ⟨σ1, ?_, s2⟩
    refine (eX0_seek (d := 2) ?_).mono hd
    intro X Xr Xt hC hr
    refine bX0_seek_0 hC ?_
    refine ⟨_, ctJ7_fillI (n := 4) (by decide) rfl (by decide), ?_⟩
    rw [hR1.1 1 (by decide), if_pos (by omega)]
    rw [hf] at hr
    exact s1 X Xr Xt hC hr
  · refine ⟨flS σ 64 4 0, ?_, fun b hb => flS_cell hb⟩
    refine (eX0_seek (d := 2) ?_).mono hd
    intro X Xr Xt hC hr
    refine bX0_seek_0 hC ?_
    refine ⟨_, ctJ7_fillI (n := 4) (by decide) rfl (by decide), ?_⟩
    rw [hR1.1 1 (by decide), if_neg (by omega)]
    have e : bgL N n 0 1 = [] := by rw [show n = (n - 1) + 1 by omega]; exact bgL_e (by omega)
    rw [e] at hr
    have hr : Xr [lV (if k = -1 then ((0 : Nat) : Int) else -1)] (flS σ 64 4 0) := hr
    refine bX0_seek_28 hC ?_
    rw [if_pos (by decide), if_pos rfl]
    by_cases w : k = -1
    · rw [if_pos w] at hr ⊢; exact hr
    · rw [if_neg w] at hr ⊢; exact hr
