/-! a purse's row: pure rows -/
theorem tK_lt {tx : Nat → Int} {n t : Nat} (h : tK tx n t ≠ 0) : t < n := by
  unfold tK at h
  by_cases q : tkP tx n t < n
  · have := tkP_t (tx := tx) t q
    omega
  · rw [if_neg q] at h
    exact absurd rfl h
theorem updN_cm {N : Tn} {i j v w : Nat} (h : i ≠ j) : updN (updN N i v) j w = updN (updN N j w) i v := by
  funext k
  by_cases a : k = j
  · rw [a, updN_eq, updN_ne (show j ≠ i by omega), updN_eq]
  · rw [updN_ne a]
    by_cases b : k = i
    · rw [b, updN_eq, updN_eq]
    · rw [updN_ne b, updN_ne b, updN_ne a]
theorem updN_2 {N : Tn} {i v w : Nat} : updN (updN N i v) i w = updN N i w := by
  funext k
  by_cases a : k = i
  · rw [a, updN_eq, updN_eq]
  · rw [updN_ne a, updN_ne a, updN_ne a]
theorem upd2_up {N : Tn} {P K i v : Nat} (h : 4 ≤ i) : updN (updN (updN N i v) 2 P) 3 K = updN (updN (updN N 2 P) 3 K) i v := by
  rw [updN_cm (show i ≠ 2 by omega), updN_cm (show i ≠ 3 by omega)]
theorem wfn_23 {A B : Tn} (h : WFN A) (e : ∀ j, j ≠ 2 → j ≠ 3 → B j = A j) (h2 : A 2 ≤ B 2) (h3 : A 3 ≤ B 3) (h5 : B 2 ≤ 5) (h6 : B 3 ≤ 6) (h1 : 0 < B 2 → 0 < A 1) : WFN B := by
  obtain ⟨w1, w2, w3, w4, w5, w6, w7, w8, w9, w10⟩ := h
  have eh : ∀ p, hN B p = hN A p := fun p => by funext c; exact e _ (by omega) (by omega)
  have es : ∀ k s, sN B k s = sN A k s := fun k s => by funext c; exact e _ (by omega) (by omega)
  have eo : ∀ p q, oN B p q = oN A p q := fun p q => e _ (by omega) (by omega)
  have e0 : B 0 = A 0 := e 0 (by decide) (by decide)
  have e1 : B 1 = A 1 := e 1 (by decide) (by decide)
  refine ⟨⟨by rw [e1]; exact w1.1, h5, h6, by rw [e0]; exact w1.2.2.2.1, by rw [e1]; exact h1⟩, fun c hc => ?_, fun c f hc hf => ?_, fun p hp => by rw [eh]; exact w4 p hp, fun p c hp hc z => ?_, fun k s hk hs => by rw [es]; exact w6 k s hk hs, fun k s c hk hs hc z => ?_, fun c hc => by rw [e _ (by omega) (by omega), e1]; exact w8 c hc, fun p q hp hq => ?_, fun c hc => by rw [e1, e (4 + c) (by omega) (by omega)]; exact w10 c hc⟩
  · rw [e1] at hc
    rw [e _ (by omega) (by omega)]
    exact w2 c hc
  · rw [e1] at hc hf
    rw [e _ (by omega) (by omega), e _ (by omega) (by omega)]
    exact w3 c f hc hf
  · rw [e1] at z
    rw [eh]
    exact w5 p c hp hc (by omega)
  · rw [e1] at z
    rw [es]
    exact w7 k s c hk hs hc (by omega)
  · have := w9 p q hp hq
    rw [eo]
    exact ⟨this.1, this.2.1, fun z => this.2.2 (by omega)⟩
theorem wfp_23 {N : Tn} {P K P2 K2 : Nat} (h : WFP N P K) (h2 : P ≤ P2) (h3 : K ≤ K2) (h5 : P2 ≤ 5) (h6 : K2 ≤ 6) (h1 : 0 < P2 → 0 < N 1) : WFP N P2 K2 := by
  refine wfn_23 (show WFN (updN (updN N 2 P) 3 K) from h) (fun j a b => ?_) ?_ ?_ ?_ ?_ ?_
  · rw [updN_ne b, updN_ne a, updN_ne b, updN_ne a]
  · rw [upd2_2, upd2_2]; exact h2
  · rw [upd2_3, upd2_3]; exact h3
  · rw [upd2_2]; exact h5
  · rw [upd2_3]; exact h6
  · rw [upd2_2, upd2_1]; exact h1
def cuN (N : Tn) (c k : Nat) : Tn := updN N (12 + (8 * N 2 + c)) (hN N (N 2) c + k)
theorem cuN_lo {N : Tn} {c k j : Nat} (h : j < 12) : cuN N c k j = N j := updN_ne (by omega)
theorem cuN_0 {N : Tn} {k c : Nat} : cuN N c k 0 = N 0 := cuN_lo (by decide)
theorem cuN_1 {N : Tn} {k c : Nat} : cuN N c k 1 = N 1 := cuN_lo (by decide)
theorem cuN_2 {N : Tn} {k c : Nat} : cuN N c k 2 = N 2 := cuN_lo (by decide)
theorem cuN_3 {N : Tn} {k c : Nat} : cuN N c k 3 = N 3 := cuN_lo (by decide)
theorem cuN_at {N : Tn} {c k : Nat} : hN (cuN N c k) (N 2) c = hN N (N 2) c + k := by
  show cuN N c k (12 + 8 * N 2 + c) = hN N (N 2) c + k
  rw [Nat.add_assoc]
  exact updN_eq _ _ _
theorem cuN_cm {N : Tn} {c a b : Nat} : cuN (cuN N c a) c b = cuN N c (a + b) := by
  have e : cuN (cuN N c a) c b = updN (cuN N c a) (12 + (8 * N 2 + c)) (hN N (N 2) c + a + b) := by
    show updN (cuN N c a) (12 + (8 * cuN N c a 2 + c)) (hN (cuN N c a) (cuN N c a 2) c + b) = _
    rw [cuN_2, cuN_at]
  rw [e]
  unfold cuN
  rw [updN_2, Nat.add_assoc]
theorem cuN_sum {N : Tn} {c k : Nat} (hc : c < 8) : sumN (hN (cuN N c k) (N 2)) 8 = sumN (hN N (N 2)) 8 + k := by
  have e : sumN (hN (cuN N c k) (N 2)) 8 = sumN (fun i => if i = c then hN N (N 2) c + k else hN N (N 2) i) 8 := by
    refine sumN_congr (fun i hi => ?_)
    unfold cuN
    rw [hN_upd hc hi]
    by_cases q : i = c
    · rw [if_pos ⟨rfl, q⟩]
      show _ = if i = c then _ else _
      rw [if_pos q]
    · rw [if_neg (fun z => q z.2)]
      show _ = if i = c then _ else _
      rw [if_neg q]
  have := sumN_upd (f := hN N (N 2)) (c := c) (v := hN N (N 2) c + k) 8 hc
  rw [e]
  omega
theorem wfp_cm {N : Tn} {K c k : Nat} (h : WFP N (N 2 + 1) K) (hc : c < N 1) (hs : sumN (hN N (N 2)) 8 + k ≤ 9) : WFP (cuN N c k) (N 2 + 1) K := by
  have h5 := (wfp_1 h).2.1
  have hP : N 2 < 5 := by omega
  have h2 : WFN (updN (updN N 2 (N 2 + 1)) 3 K) := h
  have em : mN (updN (updN N 2 (N 2 + 1)) 3 K) (N 2) = sumN (hN N (N 2)) 8 := by rw [mN_8 h2 hP, wfp_hN]
  have w := WFN_hold (p := N 2) (c := c) (v := hN N (N 2) c + k) h2 (by rw [upd2_2]; omega) (by rw [upd2_1]; exact hc) (by rw [em, wfp_hN]; omega)
  unfold WFP cuN
  rw [upd2_up (by omega)]
  exact w
theorem rw_cm {τ : Sg} {N : Tn} {c k : Nat} (hP : N 2 < 5) (hc : c < 8) (hR : RowM τ 68 0 N) : upS τ 68 (12 + 8 * N 2 + c) ((hN N (N 2) c + k : Nat) : Int) = rwS τ 68 0 (cuN N c k) := by
  have := rwS_up (σ := τ) (a := 68) (i := 12 + (8 * N 2 + c)) (v := hN N (N 2) c + k) (M := N) (by omega)
  rw [rwS_id hR] at this
  rw [Nat.add_assoc]
  exact this
/-- what a coin of a purse does -/
def tmO (tx : Nat → Int) (n t : Nat) (N : Tn) (c : Nat) : Po := if tK tx n (t + 2) = 2 then (if 1 ≤ tV tx n (t + 2) ∧ tV tx n (t + 2) ≤ 9 then (if 9 < sumN (hN N (N 2)) 8 + (tV tx n (t + 2)).toNat then stpO tx n (t + 2) 4 else .inl (cuN N c (tV tx n (t + 2)).toNat, t + 3)) else stpO tx n (t + 2) 3) else stpO tx n (t + 2) 2
def puO (tx : Nat → Int) (n t : Nat) (N : Tn) : Po := if nrN N (tV tx n t) = -1 then stpO tx n t 3 else if sumN (hN N (N 2)) 8 = 9 then stpO tx n t 4 else if tK tx n (t + 1) = 7 then tmO tx n t N (nrN N (tV tx n t)).toNat else .inl (cuN N (nrN N (tV tx n t)).toNat 1, t + 1)
theorem come_CP {d c k t : Nat} {z : Int} (hd : 1 ≤ d) {σ : Sg} {tx : Nat → Int} {n : Nat} {N : Tn} (hP : N 2 < 5) (hc : c < 8) (hz : z = (k : Int)) (hb : hN N (N 2) c + k ≤ 100) (h : CP σ tx n t N) : Ct d MX8_come [rV 17 14, iV (σ 14 2), iV (c : Int), iV z] σ (.inl []) (tnS σ 14 (cuN N c k)) := by
  have a2 : σ 14 2 = (N 2 : Int) := h.2.1.1 2 (by decide)
  have := ctX8_come (d := d) (p := N 2) (c := c) (t := 14) (v := hN N (N 2) c + k) (z := z) (M := N) (σ := σ) hd hP hc (by rw [hz]; omega) (by omega)
  rw [tnS_id h.2.1] at this
  rw [a2]
  exact this
