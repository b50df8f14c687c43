/-! a coin more -/
theorem nrGo_no {N : Tn} {x : Int} : ∀ f k, nrGo N x f k = -1 → ∀ c, k ≤ c → c < k + f → (N (4 + c) : Int) ≠ x := by
  intro f
  induction f with
  | zero => intro k _ c h1 h2; exact absurd h2 (by omega)
  | succ f ih =>
    intro k h c h1 h2
    unfold nrGo at h
    by_cases q : (N (4 + k) : Int) = x
    · rw [if_pos q] at h
      exact absurd h (by omega)
    · rw [if_neg q] at h
      by_cases z : c = k
      · rw [z]; exact q
      · exact ih (k + 1) h c (by omega) (by omega)
theorem nrN_no {N : Tn} {x : Int} (h : nrN N x = -1) {c : Nat} (hc : c < N 1) : (N (4 + c) : Int) ≠ x := nrGo_no (N 1) 0 h c (Nat.zero_le _) (by omega)
theorem smallP_v {v : Nat} (h : smallP (v : Int) = true) : isPr v = true ∧ 2 ≤ v ∧ v ≤ 97 := by
  by_cases z : 2 ≤ (v : Int) ∧ (v : Int) ≤ 97
  · have v98 : v < 98 := by omega
    have sn : smallP (v : Int) = isPr v := smallP_nat ⟨v, v98⟩
    rw [sn] at h
    exact ⟨h, by omega, by omega⟩
  · rw [smallP_big z] at h
    exact absurd h (by decide)
theorem prN_1 {N : Tn} {v : Int} : prN N v 1 = N 1 + 1 := updN_eq _ _ _
theorem prN_0 {N : Tn} {v : Int} : prN N v 0 = N 0 := by
  unfold prN
  rw [updN_ne (by decide), updN_ne (by omega)]
theorem prN_2 {N : Tn} {v : Int} : prN N v 2 = N 2 := by
  unfold prN
  rw [updN_ne (by decide), updN_ne (by omega)]
theorem prN_3 {N : Tn} {v : Int} : prN N v 3 = N 3 := by
  unfold prN
  rw [updN_ne (by decide), updN_ne (by omega)]
theorem prN_c {N : Tn} {v : Int} {c : Nat} : prN N v (4 + c) = if c = N 1 then v.toNat else N (4 + c) := by
  unfold prN
  rw [updN_ne (by omega)]
  by_cases q : c = N 1
  · rw [if_pos q, q, updN_eq]
  · rw [if_neg q, updN_ne (by omega)]
theorem prN_hi {N : Tn} {v : Int} {j : Nat} (h8 : N 1 < 8) (h : 12 ≤ j) : prN N v j = N j := by
  unfold prN
  rw [updN_ne (by omega), updN_ne (by omega)]
theorem upd2_1 {N : Tn} {P K : Nat} : updN (updN N 2 P) 3 K 1 = N 1 := by rw [updN_ne (by decide), updN_ne (by decide)]
theorem upd2_0 {N : Tn} {P K : Nat} : updN (updN N 2 P) 3 K 0 = N 0 := by rw [updN_ne (by decide), updN_ne (by decide)]
theorem upd2_2 {N : Tn} {P K : Nat} : updN (updN N 2 P) 3 K 2 = P := by rw [updN_ne (by decide), updN_eq]
theorem upd2_3 {N : Tn} {P K : Nat} : updN (updN N 2 P) 3 K 3 = K := updN_eq _ _ _
theorem wfp_pr {N : Tn} {v : Nat} (h : WFP N 0 0) (h8 : N 1 < 8) (hs : smallP (v : Int) = true) (hn : nrN N (v : Int) = -1) : WFP (prN N (v : Int)) 0 0 := by
  obtain ⟨s1, s2, s3⟩ := smallP_v hs
  obtain ⟨w1, w2, w3, w4, w5, w6, w7, w8, w9, w10⟩ := h
  rw [upd2_1, upd2_0] at w1
  unfold WFP
  refine ⟨⟨?_, ?_, ?_, ?_, ?_⟩, ?_, ?_, ?_, ?_, ?_, ?_, ?_, ?_, ?_⟩
  · rw [upd2_1, prN_1]; exact h8
  · rw [upd2_2]; decide
  · rw [upd2_3]; decide
  · rw [upd2_0, prN_0]; exact w1.2.2.2.1
  · rw [upd2_2]; intro z; exact absurd z (by decide)
  · intro c hc
    rw [upd2_1, prN_1] at hc
    rw [upd2_hi (by omega), prN_c]
    by_cases q : c = N 1
    · rw [if_pos q, Int.toNat_natCast]; exact ⟨s1, s2, s3⟩
    · rw [if_neg q]
      have := w2 c (by rw [upd2_1]; omega)
      rw [upd2_hi (by omega)] at this
      exact this
  · intro c e hc he
    rw [upd2_1, prN_1] at hc he
    rw [upd2_hi (by omega), upd2_hi (by omega), prN_c, prN_c, Int.toNat_natCast]
    by_cases q : c = N 1
    · rw [if_pos q]
      by_cases r : e = N 1
      · intro _; omega
      · rw [if_neg r]
        intro z
        exact absurd (by rw [z]) (nrN_no hn (show e < N 1 by omega))
    · rw [if_neg q]
      by_cases r : e = N 1
      · rw [if_pos r]
        intro z
        exact absurd (by rw [z]) (nrN_no hn (show c < N 1 by omega))
      · rw [if_neg r]
        intro z
        refine w3 c e (by rw [upd2_1]; omega) (by rw [upd2_1]; omega) ?_
        rw [upd2_hi (by omega), upd2_hi (by omega)]
        exact z
  · intro p hp
    have := w4 p hp
    rw [wfp_hN] at this ⊢
    rw [show hN (prN N (v : Int)) p = hN N p from by funext c; exact prN_hi h8 (by omega)]
    exact this
  · intro p c hp hc _
    have := w5 p c hp hc (Or.inl (by rw [upd2_2]; exact Nat.zero_le _))
    rw [wfp_hN] at this ⊢
    rw [show hN (prN N (v : Int)) p = hN N p from by funext c; exact prN_hi h8 (by omega)]
    exact this
  · intro k s hk hs
    have := w6 k s hk hs
    rw [wfp_sN] at this ⊢
    rw [show sN (prN N (v : Int)) k s = sN N k s from by funext c; exact prN_hi h8 (by omega)]
    exact this
  · intro k s c hk hs hc _
    have := w7 k s c hk hs hc (Or.inl (by rw [upd2_3]; exact Nat.zero_le _))
    rw [wfp_sN] at this ⊢
    rw [show sN (prN N (v : Int)) k s = sN N k s from by funext c; exact prN_hi h8 (by omega)]
    exact this
  · intro c hc
    have := w8 c hc
    rw [upd2_hi (by omega), upd2_1] at this
    rw [upd2_hi (by omega), upd2_1, prN_1, prN_hi h8 (by omega)]
    exact ⟨this.1, fun z => this.2 (by omega)⟩
  · intro p q hp hq
    have e : oN (updN (updN (prN N (v : Int)) 2 0) 3 0) p q = oN (updN (updN N 2 0) 3 0) p q := by
      unfold oN
      rw [upd2_hi (by omega), upd2_hi (by omega), prN_hi h8 (by omega)]
    rw [e]
    have := w9 p q hp hq
    rw [upd2_2] at this ⊢
    exact this
  · intro c hc hz
    rw [upd2_1, prN_1] at hz
    rw [upd2_hi (by omega), prN_c, if_neg (by omega)]
    have := w10 c hc (by rw [upd2_1]; omega)
    rw [upd2_hi (by omega)] at this
    exact this
