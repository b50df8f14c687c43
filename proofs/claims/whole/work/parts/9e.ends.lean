/-! a line's end on both sides -/
def CP (σ : Sg) (tx : Nat → Int) (n t : Nat) (N : Tn) : Prop := CTk σ tx n t ∧ RowT σ 14 N ∧ σ 1 0 = 0 ∧ σ 1 1 = -1
def RP (τ : Sg) (tx : Nat → Int) (n t : Nat) (N : Tn) : Prop := RTk τ tx n t ∧ RowM τ 68 0 N ∧ τ 66 13 = 0
def FcP (σ σ1 : Sg) : Prop := ∀ b, b = 0 ∨ (6 ≤ b ∧ b < 14) ∨ (20 < b ∧ b ≠ 87) → σ1 b = σ b
def FrP (τ τ1 : Sg) : Prop := (∀ j, j < 8 ∨ 14 < j → τ1 66 j = τ 66 j) ∧ ∀ b, b ≠ 66 → b ≠ 68 → τ1 b = τ b
theorem FcP.refl (σ : Sg) : FcP σ σ := fun _ _ => rfl
theorem FrP.refl (τ : Sg) : FrP τ τ := ⟨fun _ _ => rfl, fun _ _ _ => rfl⟩
theorem FcP.trans {σ τ υ : Sg} (h : FcP σ τ) (g : FcP τ υ) : FcP σ υ := fun b hb => (g b hb).trans (h b hb)
theorem FrP.trans {σ τ υ : Sg} (h : FrP σ τ) (g : FrP τ υ) : FrP σ υ := ⟨fun j hj => (g.1 j hj).trans (h.1 j hj), fun b h1 h2 => (g.2 b h1 h2).trans (h.2 b h1 h2)⟩
abbrev Po := (Tn × Nat) ⊕ (Int × Nat)
def flg : Po → Int
  | .inl _ => 1
  | .inr _ => 0
def CQ (σ σ1 : Sg) (tx : Nat → Int) (n : Nat) : Po → Prop
  | .inl p => FcP σ σ1 ∧ CP σ1 tx n p.2 p.1
  | .inr p => FcP σ σ1 ∧ p.1 ≠ 0 ∧ σ1 1 0 = p.1 ∧ σ1 1 1 = (p.2 : Int)
def RQ (τ τ1 : Sg) (tx : Nat → Int) (n : Nat) : Po → Prop
  | .inl p => FrP τ τ1 ∧ RP τ1 tx n p.2 p.1
  | .inr p => FrP τ τ1 ∧ p.1 ≠ 0 ∧ τ1 66 13 = p.1 ∧ τ1 66 14 = (p.2 : Int)
theorem CQ.after {σ σ0 σ1 : Sg} {tx : Nat → Int} {n : Nat} {o : Po} (h : CQ σ0 σ1 tx n o) (f : FcP σ σ0) : CQ σ σ1 tx n o := by
  cases o with
  | inl p => exact ⟨f.trans h.1, h.2⟩
  | inr p => exact ⟨f.trans h.1, h.2⟩
theorem RQ.after {σ σ0 σ1 : Sg} {tx : Nat → Int} {n : Nat} {o : Po} (h : RQ σ0 σ1 tx n o) (f : FrP σ σ0) : RQ σ σ1 tx n o := by
  cases o with
  | inl p => exact ⟨f.trans h.1, h.2⟩
  | inr p => exact ⟨f.trans h.1, h.2⟩
def stpO (tx : Nat → Int) (n t : Nat) (k : Int) : Po := .inr (stpK tx n t k, tkP tx n t)
theorem stpK_ne {tx : Nat → Int} {n t : Nat} {k : Int} (hk : k ≠ 0) : stpK tx n t k ≠ 0 := by
  unfold stpK
  by_cases q : tK tx n t = 1
  · rw [if_pos q]; decide
  · rw [if_neg q]; exact hk
theorem stop_CQ {d : Nat} (hd : 2 ≤ d) {σ : Sg} {tx : Nat → Int} {n t : Nat} {k : Int} (hk : k ≠ 0) (h : CTk σ tx n t) : ∃ σ1, Ct d MX5_stop [rV 14 1, iV k] σ (.inl [iV 0]) σ1 ∧ CQ σ σ1 tx n (stpO tx n t k) := by
  refine ⟨_, stop_C hd h, fun b hb => ?_, stpK_ne hk, ?_, ?_⟩
  · unfold spS
    rw [ups_cell (by omega), ups_cell (by omega)]
  · unfold spS
    rw [ups_ne (by decide), ups_eq]
  · unfold spS
    rw [ups_eq]
theorem blames_RQ {d : Nat} (hd : 1 ≤ d) {τ : Sg} {tx : Nat → Int} {n t : Nat} {k : Int} (hk : k ≠ 0) (h : RTk τ tx n t) (h0 : τ 66 13 = 0) : ∃ τ1, Ct d MX11_blames [rV 20 66, iV k] τ (.inl []) τ1 ∧ RQ τ τ1 tx n (stpO tx n t k) := by
  refine ⟨_, blames_R hd h h0, ⟨fun j hj => ?_, fun b h1 h2 => ?_⟩, stpK_ne hk, ?_, ?_⟩
  · unfold blS
    rw [ups_ne (by omega), ups_ne (by omega)]
  · unfold blS
    rw [ups_cell h1, ups_cell h1]
  · unfold blS
    rw [ups_ne (by decide), ups_eq]
  · unfold blS
    rw [ups_eq]
theorem cp_up {σ : Sg} {tx : Nat → Int} {n t t2 : Nat} {N M : Tn} (h : CP σ tx n t N) : CP (upS (tnS σ 14 M) 1 4 (t2 : Int)) tx n t2 M ∧ FcP σ (upS (tnS σ 14 M) 1 4 (t2 : Int)) := by
  refine ⟨⟨⟨h.1.1.fr (fun b h1 h2 => by rw [ups_cell (by omega), tnS_cell (by omega)]), ups_eq⟩, RowT_fr (tnS_row σ 14 M) (fun i hi => ups_cell (by omega)), ?_, ?_⟩, fun b hb => by rw [ups_cell (by omega), tnS_cell (by omega)]⟩
  · rw [ups_ne (by decide), tnS_cell (by decide)]; exact h.2.2.1
  · rw [ups_ne (by decide), tnS_cell (by decide)]; exact h.2.2.2
theorem cp_tn {σ : Sg} {tx : Nat → Int} {n t : Nat} {N M : Tn} (h : CP σ tx n t N) : CP (tnS σ 14 M) tx n t M ∧ FcP σ (tnS σ 14 M) := by
  have := cp_up (t2 := t) (M := M) h
  rw [ups_self (by rw [tnS_cell (by decide)]; exact h.1.2)] at this
  exact this
theorem rp_rw {τ : Sg} {tx : Nat → Int} {n t : Nat} {N M : Tn} (h : RP τ tx n t N) : RP (rwS τ 68 0 M) tx n t M ∧ FrP τ (rwS τ 68 0 M) := by
  have e66 : rwS τ 68 0 M 66 = τ 66 := rwS_cell (by decide)
  have e72 : rwS τ 68 0 M 72 = τ 72 := rwS_cell (by decide)
  refine ⟨⟨?_, rwS_row τ 68 0 M, by rw [e66]; exact h.2.2⟩, fun j _ => by rw [e66], fun b h1 h2 => rwS_cell h2⟩
  unfold RTk TxR
  rw [e66, e72]
  exact h.1
theorem rp_reads {d : Nat} (hd : 4 ≤ d) {τ : Sg} {tx : Nat → Int} {n t : Nat} {N : Tn} (hn : n ≤ 700) (h : RP τ tx n t N) : ∃ τ1, Ct d MX11_reads [rV 20 66] τ (.inl []) τ1 ∧ RP τ1 tx n (t + 1) N ∧ FrP τ τ1 := by
  obtain ⟨τ1, c1, c2, c3⟩ := reads_s hd hn h.1
  exact ⟨τ1, c1, ⟨c2, RowM_cell h.2.1 (c3.2 68 (by decide)), by rw [c3.1 13 (by decide)]; exact h.2.2⟩, fun j hj => c3.1 j (by omega), fun b h1 _ => c3.2 b h1⟩
def eoN (tx : Nat → Int) (n t : Nat) (N : Tn) : Po := if tK tx n t = 3 then .inl (updN N 0 (N 0 + 1), t + 1) else stpO tx n t 2
theorem endLine_C {d : Nat} (hd : 3 ≤ d) {σ : Sg} {tx : Nat → Int} {n t : Nat} {N : Tn} (ht : t < 100000) (h0 : N 0 ≤ 1000) (h : CP σ tx n t N) : ∃ σ1, Ct d MX5_endLine [rV 14 1] σ (.inl [iV (flg (eoN tx n t N))]) σ1 ∧ CQ σ σ1 tx n (eoN tx n t N) := by
  have a0 : σ 14 0 = (N 0 : Int) := h.2.1.1 0 (by decide)
  have e1 : upS σ 14 0 ((N 0 + 1 : Nat) : Int) = tnS σ 14 (updN N 0 (N 0 + 1)) := by
    have := tnS_up (σ := σ) (t := 14) (a := 14) (k := 0) (i := 0) (v := N 0 + 1) (M := N) (Or.inl ⟨rfl, by decide, rfl⟩)
    rw [tnS_id h.2.1] at this
    exact this
  have e2 : ∀ v : Int, upS σ 14 0 v 1 4 = (t : Int) := fun v => by rw [ups_cell (by decide)]; exact h.1.2
  by_cases q : tK tx n t = 3
  · have eo : eoN tx n t N = .inl (updN N 0 (N 0 + 1), t + 1) := if_pos q
    obtain ⟨c1, c2⟩ := cp_up (t2 := t + 1) (M := updN N 0 (N 0 + 1)) h
    rw [eo]
    refine ⟨_, (eX5_endLine (d := 2) ?_).mono hd, c2, c1⟩
    intro X Xr Xt hC hr
    refine bX5_endLine_0 hC ?_
    refine ⟨_, isNext_C (by decide) 3 h.1, ?_⟩
    rw [q, decide_eq_true (show ((3 : Nat) : Int) = 3 from rfl), if_neg (by decide), e2, a0, w32_s (show N 0 < 2147483647 by omega), e1, w32_s (show t < 2147483647 by omega)]
    exact hr
  · have eo : eoN tx n t N = stpO tx n t 2 := if_neg q
    rw [eo]
    obtain ⟨σ1, c1, c2⟩ := stop_CQ (d := 2) (k := 2) (by decide) (by decide) h.1
    refine ⟨σ1, (eX5_endLine (d := 2) ?_).mono hd, c2⟩
    intro X Xr Xt hC hr
    refine bX5_endLine_0 hC ?_
    refine ⟨_, isNext_C (by decide) 3 h.1, ?_⟩
    rw [decide_eq_false (by omega), if_pos (by decide)]
    exact ⟨_, _, c1, Or.inl rfl, hr⟩
theorem readStop_R {d : Nat} (hd : 5 ≤ d) {τ : Sg} {tx : Nat → Int} {n t : Nat} {N : Tn} (hn : n ≤ 700) (h0 : N 0 ≤ 1000) (h : RP τ tx n t N) : ∃ τ1, Ct d MX11_readStop [rV 20 66] τ (.inl []) τ1 ∧ RQ τ τ1 tx n (eoN tx n t N) := by
  by_cases q : tK tx n t = 3
  · have eo : eoN tx n t N = .inl (updN N 0 (N 0 + 1), t + 1) := if_pos q
    obtain ⟨τ1, c1, c2, c3⟩ := rp_reads (d := 4) (by decide) hn h
    have a0 : τ1 68 0 = (N 0 : Int) := c2.2.1 0 (by decide)
    have e1 : upS τ1 68 0 ((N 0 + 1 : Nat) : Int) = rwS τ1 68 0 (updN N 0 (N 0 + 1)) := by
      have := rwS_up (σ := τ1) (a := 68) (i := 0) (v := N 0 + 1) (M := N) (by decide)
      rw [rwS_id c2.2.1] at this
      exact this
    obtain ⟨d1, d2⟩ := rp_rw (M := updN N 0 (N 0 + 1)) c2
    rw [eo]
    refine ⟨_, (eX11_readStop (d := 4) ?_).mono hd, c3.trans d2, d1⟩
    intro X Xr Xt hC hr
    refine bX11_readStop_0 hC ?_
    rw [h.1.2.2.2.1, if_pos (rkd_is.2.1.mpr q), if_pos h.2.2]
    refine ⟨_, c1, ?_⟩
    rw [if_pos c2.2.2, a0, w32_s (show N 0 < 2147483647 by omega), e1]
    exact hr
  · have eo : eoN tx n t N = stpO tx n t 2 := if_neg q
    rw [eo]
    obtain ⟨τ1, c1, c2⟩ := blames_RQ (d := 4) (k := 2) (by decide) (by decide) h.1 h.2.2
    refine ⟨τ1, (eX11_readStop (d := 4) ?_).mono hd, c2⟩
    intro X Xr Xt hC hr
    refine bX11_readStop_0 hC ?_
    rw [h.1.2.2.2.1, if_neg (fun z => q (rkd_is.2.1.mp z))]
    have hb : τ1 66 13 ≠ 0 := by rw [c2.2.2.1]; exact c2.2.1
    refine ⟨_, c1, ?_⟩
    rw [if_neg hb, if_neg hb]
    exact hr
theorem readStop_R0 {d : Nat} (hd : 2 ≤ d) {τ : Sg} (h0 : τ 66 13 ≠ 0) : Ct d MX11_readStop [rV 20 66] τ (.inl []) τ := by
  refine (eX11_readStop (d := 1) ?_).mono hd
  intro X Xr Xt hC hr
  refine bX11_readStop_0 hC ?_
  by_cases q : τ 66 11 = 3
  · rw [if_pos q, if_neg h0, if_neg h0]; exact hr
  · rw [if_neg q]
    refine ⟨_, blames_R0 (by decide) h0, ?_⟩
    rw [if_neg h0, if_neg h0]
    exact hr
