/-! the rows that both readers fill -/
/-- P persons and K changes begun -/
def WFP (N : Tn) (P K : Nat) : Prop := WFN (updN (updN N 2 P) 3 K)
def e0N : Tn := fun j => if 156 ≤ j then 1 else 0
theorem e0N_lo {j : Nat} (h : j < 156) : e0N j = 0 := if_neg (by omega)
theorem e0N_hi {j : Nat} (h : 156 ≤ j) : e0N j = 1 := if_pos h
theorem wfn_e0 : WFN e0N := by
  refine ⟨⟨by decide, by decide, by decide, by decide, fun h => absurd h (by decide)⟩, fun c hc => absurd hc (by rw [e0N_lo (by decide)]; omega), fun c e hc => absurd hc (by rw [e0N_lo (by decide)]; omega), fun p hp => ?_, fun p c hp hc _ => ?_, fun k s hk hs => ?_, fun k s c hk hs hc _ => ?_, fun c hc => ?_, fun p q hp hq => ?_, fun c hc _ => e0N_lo (by omega)⟩
  · rw [sumN_zero (f := hN e0N p) (Nat.zero_le 8) (fun i _ hi => e0N_lo (by omega))]
    exact Nat.zero_le _
  · exact e0N_lo (by omega)
  · rw [sumN_zero (f := sN e0N k s) (Nat.zero_le 8) (fun i _ hi => e0N_lo (by omega))]
    exact Nat.zero_le _
  · exact e0N_lo (by omega)
  · rw [e0N_lo (by omega)]
    exact ⟨by decide, fun _ => rfl⟩
  · have e : oN e0N p q = 1 := e0N_hi (by omega)
    rw [e]
    exact ⟨by decide, by decide, fun _ => rfl⟩
theorem wfp_e0 : WFP e0N 0 0 := by
  have e1 : updN e0N 2 0 = e0N := updN_same e0N 2
  have e2 : updN e0N 3 0 = e0N := updN_same e0N 3
  unfold WFP
  rw [e1, e2]
  exact wfn_e0
theorem wfp_end {N : Tn} (h : WFP N (N 2) (N 3)) : WFN N := by
  unfold WFP at h
  rw [updN_same, updN_same] at h
  exact h
theorem wfp_1 {N : Tn} {P K : Nat} (h : WFP N P K) : N 1 ≤ 8 ∧ P ≤ 5 ∧ K ≤ 6 ∧ N 0 ≤ 1000 ∧ (0 < P → 0 < N 1) := by
  have h1 := h.1
  rw [updN_eq, updN_ne (show (1 : Nat) ≠ 3 by decide), updN_ne (show (1 : Nat) ≠ 2 by decide), updN_ne (show (2 : Nat) ≠ 3 by decide), updN_eq, updN_ne (show (0 : Nat) ≠ 3 by decide), updN_ne (show (0 : Nat) ≠ 2 by decide)] at h1
  exact h1
theorem upd2_hi {N : Tn} {P K j : Nat} (h : 4 ≤ j) : updN (updN N 2 P) 3 K j = N j := by rw [updN_ne (by omega), updN_ne (by omega)]
theorem wfp_hN {N : Tn} {P K p : Nat} : hN (updN (updN N 2 P) 3 K) p = hN N p := by funext c; exact upd2_hi (by omega)
theorem wfp_sN {N : Tn} {P K k s : Nat} : sN (updN (updN N 2 P) 3 K) k s = sN N k s := by funext c; exact upd2_hi (by omega)
theorem wfp_hs {N : Tn} {P K p : Nat} (h : WFP N P K) (hp : p < 5) : sumN (hN N p) 8 ≤ 9 := by
  have := h.2.2.2.1 p hp
  rw [wfp_hN] at this
  exact this
theorem wfp_hz {N : Tn} {P K p c : Nat} (h : WFP N P K) (hp : p < 5) (hc : c < 8) (z : P ≤ p ∨ N 1 ≤ c) : hN N p c = 0 := by
  have := h.2.2.2.2.1 p c hp hc (by rw [updN_ne (show (2 : Nat) ≠ 3 by decide), updN_eq, updN_ne (show (1 : Nat) ≠ 3 by decide), updN_ne (show (1 : Nat) ≠ 2 by decide)]; exact z)
  rw [wfp_hN] at this
  exact this
theorem many_P {d p t P K : Nat} {N : Tn} (hd : 2 ≤ d) (hW : WFP N P K) (hp : p < 5) {σ : Sg} (hR : RowT σ t N) : Ct d MX8_many [rV 17 t, iV (p : Int)] σ (.inl [iV (sumN (hN N p) 8 : Int)]) σ := by
  refine (eX8_many (d := 1) ?_).mono hd
  intro X Xr Xt hC hr
  refine bX8_many_0 hC ?_
  have h8 := (wfp_1 hW).1
  have h1 := hR.1 1 (by omega)
  have hs := wfp_hs hW hp
  have e8 : sumN (hN N p) 8 = sumN (hN N p) (N 1) := sumN_zero h8 (fun i h1 h2 => wfp_hz hW hp h2 (Or.inr h1))
  have key : ∀ k, k ≤ N 1 → X 4 [rV 17 t, iV (p : Int), iV (sumN (hN N p) k : Int), iV (k : Int)] [] σ := by
    refine loop_up (P := fun k => X 4 [rV 17 t, iV (p : Int), iV (sumN (hN N p) k : Int), iV (k : Int)] [] σ) ?_ ?_
    · refine bX8_many_4 hC ?_
      rw [h1, if_neg (by omega), ← e8]
      exact hr
    · intro k hk ih
      refine bX8_many_4 hC ?_
      rw [h1, if_pos (by omega)]
      refine ⟨_, ctX8_held (by decide) hp (by omega) hR, ?_⟩
      have a1 : sumN (hN N p) (k + 1) ≤ sumN (hN N p) 8 := sumN_mono (by omega)
      have a2 : sumN (hN N p) (k + 1) = sumN (hN N p) k + hN N p k := rfl
      rw [w32_s (by omega), ← Int.natCast_add, w32_n (show sumN (hN N p) k + hN N p k < 2147483648 by omega)]
      exact ih
  exact key 0 (Nat.zero_le _)
/-- eight numbers of the reference's row from b on -/
theorem inPurse_R {d b : Nat} {N : Tn} (hd : 1 ≤ d) (hb : b + 8 ≤ 181) {σ : Sg} (hR : RowM σ 68 0 N) (hs : sumN (fun i => N (b + i)) 8 ≤ 100) : Ct d MX11_inPurse [rV 20 66, iV (b : Int)] σ (.inl [iV (sumN (fun i => N (b + i)) 8 : Int)]) σ := by
  refine (eX11_inPurse (d := 0) ?_).mono hd
  intro X Xr Xt hC hr
  refine bX11_inPurse_0 hC ?_
  have key : ∀ k, k ≤ 8 → X 4 [rV 20 66, iV (b : Int), iV (sumN (fun i => N (b + i)) k : Int), iV (k : Int)] [] σ := by
    refine loop_up (P := fun k => X 4 [rV 20 66, iV (b : Int), iV (sumN (fun i => N (b + i)) k : Int), iV (k : Int)] [] σ) ?_ ?_
    · refine bX11_inPurse_4 hC ?_
      rw [if_neg (by decide)]
      exact hr
    · intro k hk ih
      refine bX11_inPurse_4 hC ?_
      have a1 : sumN (fun i => N (b + i)) (k + 1) ≤ sumN (fun i => N (b + i)) 8 := sumN_mono (by omega)
      have a2 : sumN (fun i => N (b + i)) (k + 1) = sumN (fun i => N (b + i)) k + N (b + k) := rfl
      have r := hR (b + k) (by omega)
      rw [Nat.zero_add] at r
      rw [if_pos (by omega), ← Int.natCast_add, w32_n (show b + k < 2147483648 by omega), Int.toNat_natCast, r, w32_s (by omega), ← Int.natCast_add, w32_n (show sumN (fun i => N (b + i)) k + N (b + k) < 2147483648 by omega)]
      exact ⟨by omega, ih⟩
  exact key 0 (Nat.zero_le _)
theorem addCoin_C {d t v : Nat} {N : Tn} (hd : 1 ≤ d) (h8 : N 1 < 8) {σ : Sg} : Ct d MX8_addCoin [rV 17 t, iV (v : Int)] (tnS σ t N) (.inl []) (tnS σ t (updN (updN N (4 + N 1) v) 1 (N 1 + 1))) := by
  refine (eX8_addCoin (d := 0) ?_).mono hd
  intro X Xr Xt hC hr
  refine bX8_addCoin_0 hC ?_
  have e1 : tnS σ t N t 1 = (N 1 : Int) := tnS_0 (by decide)
  have e2 : upS (tnS σ t N) (t + 3) (N 1) (v : Int) = tnS σ t (updN N (4 + N 1) v) := tnS_up (Or.inr (Or.inr (Or.inl ⟨rfl, h8, rfl⟩)))
  have e3 : tnS σ t (updN N (4 + N 1) v) t 1 = (N 1 : Int) := by rw [tnS_0 (by decide), updN_ne (by omega)]
  have e4 : upS (tnS σ t (updN N (4 + N 1) v)) t 1 ((N 1 + 1 : Nat) : Int) = tnS σ t (updN (updN N (4 + N 1) v) 1 (N 1 + 1)) := tnS_up (Or.inl ⟨rfl, by decide, rfl⟩)
  rw [e1, Int.toNat_natCast, e2, e3, w32_s (by omega), e4, if_pos (by omega)]
  exact ⟨by omega, hr⟩
theorem addToSide_C {d t k s c : Nat} {N : Tn} (hd : 2 ≤ d) (hk : k < 6) (hs : s < 2) (hc : c < 8) (hb : sN N k s c ≤ 100) {σ : Sg} : Ct d MX8_addToSide [rV 17 t, iV (k : Int), iV (s : Int), iV (c : Int)] (tnS σ t N) (.inl []) (tnS σ t (updN N (52 + (16 * k + 8 * s + c)) (sN N k s c + 1))) := by
  refine (eX8_addToSide (d := 1) ?_).mono hd
  intro X Xr Xt hC hr
  refine bX8_addToSide_0 hC ?_
  have e0 : w32 (w32 (w32 (w32 ((k : Int) * 2) + (s : Int)) * 8) + (c : Int)) = ((16 * k + 8 * s + c : Nat) : Int) := by unfold w32; omega
  have e1 : tnS σ t N (t + 5) (16 * k + 8 * s + c) = (sN N k s c : Int) := by
    rw [tnS_5 (by omega)]
    show ((N (52 + (16 * k + 8 * s + c)) : Nat) : Int) = ((N (52 + 16 * k + 8 * s + c) : Nat) : Int)
    rw [show 52 + (16 * k + 8 * s + c) = 52 + 16 * k + 8 * s + c by omega]
  have e2 : upS (tnS σ t N) (t + 5) (16 * k + 8 * s + c) ((sN N k s c + 1 : Nat) : Int) = tnS σ t (updN N (52 + (16 * k + 8 * s + c)) (sN N k s c + 1)) := tnS_up (Or.inr (Or.inr (Or.inr (Or.inr (Or.inl ⟨rfl, by omega, rfl⟩)))))
  refine ⟨_, ctX8_isSidePlace (by decide) hk hs hc, ?_⟩
  rw [if_neg (by decide), e0, Int.toNat_natCast, e1, w32_s (by omega), e2]
  clear e0 e1 e2
  exact ⟨by omega, by omega, hr⟩
