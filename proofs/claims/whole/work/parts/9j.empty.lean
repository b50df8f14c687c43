/-! both begin with an empty row -/
set_option maxRecDepth 20000 in
theorem begins_R {d t : Nat} (hd : 1 ≤ d) {τ : Sg} : Ct d MX11_begins [rV 1000181 t] τ (.inl []) (rwS τ t 0 e0N) := by
  refine (eX11_begins (d := 0) ?_).mono hd
  intro X Xr Xt hC hr
  refine bX11_begins_0 hC ?_
  obtain ⟨F, hF⟩ : ∃ F : Nat → Sg, F = fun k b j => if b = t ∧ j < k then (e0N j : Int) else τ b j := ⟨_, rfl⟩
  have f0 : F 0 = τ := by
    rw [hF]; funext b j
    exact if_neg (fun z => absurd z.2 (Nat.not_lt_zero j))
  have fs : ∀ k, upS (F k) t k (e0N k : Int) = F (k + 1) := by
    intro k
    rw [hF]; funext b j
    unfold upS
    by_cases q : b = t ∧ j = k
    · rw [if_pos q]
      show _ = if b = t ∧ j < k + 1 then (e0N j : Int) else τ b j
      rw [if_pos ⟨q.1, by omega⟩, q.2]
    · rw [if_neg q]
      show (if b = t ∧ j < k then (e0N j : Int) else τ b j) = if b = t ∧ j < k + 1 then (e0N j : Int) else τ b j
      by_cases z : b = t ∧ j < k
      · rw [if_pos z, if_pos ⟨z.1, by omega⟩]
      · rw [if_neg z, if_neg (by omega)]
  have fe : F 181 = rwS τ t 0 e0N := by
    rw [hF]; funext b j
    unfold rwS
    by_cases z : b = t ∧ j < 181
    · rw [if_pos ⟨z.1, by omega, by omega⟩]
      show (if b = t ∧ j < 181 then (e0N j : Int) else τ b j) = _
      rw [if_pos z, Nat.sub_zero]
    · rw [if_neg (by omega)]
      exact if_neg z
  have key : ∀ k : Nat, k ≤ 181 → X 2 [rV 1000181 t, iV (k : Int)] [] (F k) := by
    refine loop_up (P := fun k : Nat => X 2 [rV 1000181 t, iV (k : Int)] [] (F k)) ?_ ?_
    · refine bX11_begins_2 hC ?_
      rw [if_neg (by decide), fe]
      exact hr
    · intro k hk ih
      refine bX11_begins_2 hC ?_
      rw [if_pos (by omega), Int.toNat_natCast, w32_s (show k < 2147483647 by omega)]
      have hfs := fs k
      by_cases q : (k : Int) < 156
      · rw [e0N_lo (by omega)] at hfs
        rw [if_pos q, show (0 : Int) = ((0 : Nat) : Int) from rfl, hfs]
        exact ⟨by omega, ih⟩
      · rw [e0N_hi (by omega)] at hfs
        rw [if_neg q, show (1 : Int) = ((1 : Nat) : Int) from rfl, hfs]
        exact ⟨by omega, ih⟩
  have := key 0 (Nat.zero_le _)
  rw [f0] at this
  exact this
theorem empty_C {d t : Nat} (hd : 3 ≤ d) {σ : Sg} : ∃ σ1, Ct d MX8_empty [rV 17 t] σ (.inl []) σ1 ∧ RowT σ1 t e0N ∧ ∀ b, b < t ∨ t + 6 < b → σ1 b = σ b := by
  obtain ⟨M, hM⟩ : ∃ M, M = upS (upS (upS (upS σ t 0 0) t 1 0) t 2 0) t 3 0 := ⟨_, rfl⟩
  have c1 : Ct 2 MX1_forgive [rV 11 (t + 1)] M (.inl []) (flS M (t + 2) 25 1) := by
    refine (eX1_forgive (d := 1) ?_).mono (by decide)
    intro X Xr Xt hC hr
    refine bX1_forgive_0 hC ?_
    exact ⟨_, ctJ7_fillJ (n := 25) (by decide) rfl (by decide), hr⟩
  refine ⟨flS (flS (flS (flS (flS M (t + 2) 25 1) (t + 3) 8 0) (t + 4) 40 0) (t + 5) 96 0) (t + 6) 8 0, (eX8_empty (d := 2) ?_).mono hd, ⟨?_, ?_, ?_, ?_, ?_, ?_⟩, ?_⟩
  · intro X Xr Xt hC hr
    refine bX8_empty_0 hC ?_
    rw [← hM]
    exact ⟨_, c1, _, ctJ7_fillI (n := 8) (by decide) rfl (by decide), _, ctJ7_fillI (n := 40) (by decide) rfl (by decide), _, ctJ7_fillI (n := 96) (by decide) rfl (by decide), _, ctJ7_fillI (n := 8) (by decide) rfl (by decide), hr⟩
  · intro i hi
    rw [flS_cell (by omega), flS_cell (by omega), flS_cell (by omega), flS_cell (by omega), flS_cell (by omega), e0N_lo (by omega), hM]
    rcases (show i = 0 ∨ i = 1 ∨ i = 2 ∨ i = 3 by omega) with q | q | q | q <;> subst q
    · rw [ups_ne (by omega), ups_ne (by omega), ups_ne (by omega), ups_eq]; rfl
    · rw [ups_ne (by omega), ups_ne (by omega), ups_eq]; rfl
    · rw [ups_ne (by omega), ups_eq]; rfl
    · rw [ups_eq]; rfl
  · intro i hi
    rw [flS_cell (by omega), flS_cell (by omega), flS_cell (by omega), flS_cell (by omega), flS_in hi, e0N_hi (by omega)]
    rfl
  · intro i hi
    rw [flS_cell (by omega), flS_cell (by omega), flS_cell (by omega), flS_in hi, e0N_lo (by omega)]
    rfl
  · intro i hi
    rw [flS_cell (by omega), flS_cell (by omega), flS_in hi, e0N_lo (by omega)]
    rfl
  · intro i hi
    rw [flS_cell (by omega), flS_in hi, e0N_lo (by omega)]
    rfl
  · intro i hi
    rw [flS_in hi, e0N_lo (by omega)]
    rfl
  · intro b hb
    rw [flS_cell (by omega), flS_cell (by omega), flS_cell (by omega), flS_cell (by omega), flS_cell (by omega), hM, ups_cell (by omega), ups_cell (by omega), ups_cell (by omega), ups_cell (by omega)]
