/-! a line more keeps the row well formed -/
theorem wfn_0 {N M : Tn} (h : WFN N) (e : ∀ j, 1 ≤ j → M j = N j) (h0 : M 0 ≤ 1000) : WFN M := by
  obtain ⟨w1, w2, w3, w4, w5, w6, w7, w8, w9, w10⟩ := h
  have eh : ∀ p, hN M p = hN N p := fun p => by funext c; exact e _ (by omega)
  have es : ∀ k s, sN M k s = sN N k s := fun k s => by funext c; exact e _ (by omega)
  have eo : ∀ p q, oN M p q = oN N p q := fun p q => e _ (by omega)
  have e1 := e 1 (by decide)
  have e2 := e 2 (by decide)
  have e3 := e 3 (by decide)
  refine ⟨⟨by rw [e1]; exact w1.1, by rw [e2]; exact w1.2.1, by rw [e3]; exact w1.2.2.1, h0, by rw [e1, e2]; exact w1.2.2.2.2⟩, fun c hc => ?_, fun c f hc hf => ?_, fun p hp => by rw [eh]; exact w4 p hp, fun p c hp hc => by rw [eh, e1, e2]; exact w5 p c hp hc, fun k s hk hs => by rw [es]; exact w6 k s hk hs, fun k s c hk hs hc => by rw [es, e1, e3]; exact w7 k s c hk hs hc, fun c hc => by rw [e _ (by omega), e1]; exact w8 c hc, fun p q hp hq => by rw [eo, e2]; exact w9 p q hp hq, fun c hc => by rw [e1, e (4 + c) (by omega)]; exact w10 c hc⟩
  · rw [e1] at hc
    rw [e _ (by omega)]
    exact w2 c hc
  · rw [e1] at hc hf
    rw [e _ (by omega), e _ (by omega)]
    exact w3 c f hc hf
theorem wfp_ln {N : Tn} {P K v : Nat} (h : WFP N P K) (hv : v ≤ 1000) : WFP (updN N 0 v) P K := by
  refine wfn_0 h (fun j hj => ?_) (by rw [upd2_0, updN_eq]; exact hv)
  unfold updN
  by_cases a : j = 3
  · rw [if_pos a, if_pos a]
  · rw [if_neg a, if_neg a]
    by_cases b : j = 2
    · rw [if_pos b, if_pos b]
    · rw [if_neg b, if_neg b, if_neg (by omega)]
