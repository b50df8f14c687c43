/-! MEMORIES WRITTEN: a town's cells by a row (tnS), the reference's row (rwS) -/
def tnS (σ : Sg) (t : Nat) (M : Tn) : Sg := fun b j => if b = t ∧ j < 4 then (M j : Int) else if b = t + 2 ∧ j < 25 then (M (156 + j) : Int) else if b = t + 3 ∧ j < 8 then (M (4 + j) : Int) else if b = t + 4 ∧ j < 40 then (M (12 + j) : Int) else if b = t + 5 ∧ j < 96 then (M (52 + j) : Int) else if b = t + 6 ∧ j < 8 then (M (148 + j) : Int) else σ b j
theorem tnS_0 {σ : Sg} {t j : Nat} {M : Tn} (h : j < 4) : tnS σ t M t j = (M j : Int) := if_pos ⟨rfl, h⟩
theorem tnS_2 {σ : Sg} {t j : Nat} {M : Tn} (h : j < 25) : tnS σ t M (t + 2) j = (M (156 + j) : Int) := by unfold tnS; rw [if_neg (by omega), if_pos ⟨rfl, h⟩]
theorem tnS_3 {σ : Sg} {t j : Nat} {M : Tn} (h : j < 8) : tnS σ t M (t + 3) j = (M (4 + j) : Int) := by unfold tnS; rw [if_neg (by omega), if_neg (by omega), if_pos ⟨rfl, h⟩]
theorem tnS_4 {σ : Sg} {t j : Nat} {M : Tn} (h : j < 40) : tnS σ t M (t + 4) j = (M (12 + j) : Int) := by unfold tnS; rw [if_neg (by omega), if_neg (by omega), if_neg (by omega), if_pos ⟨rfl, h⟩]
theorem tnS_5 {σ : Sg} {t j : Nat} {M : Tn} (h : j < 96) : tnS σ t M (t + 5) j = (M (52 + j) : Int) := by unfold tnS; rw [if_neg (by omega), if_neg (by omega), if_neg (by omega), if_neg (by omega), if_pos ⟨rfl, h⟩]
theorem tnS_6 {σ : Sg} {t j : Nat} {M : Tn} (h : j < 8) : tnS σ t M (t + 6) j = (M (148 + j) : Int) := by unfold tnS; rw [if_neg (by omega), if_neg (by omega), if_neg (by omega), if_neg (by omega), if_neg (by omega), if_pos ⟨rfl, h⟩]
theorem tnS_row (σ : Sg) (t : Nat) (M : Tn) : RowT (tnS σ t M) t M := ⟨fun i h => tnS_0 h, fun i h => tnS_2 h, fun i h => tnS_3 h, fun i h => tnS_4 h, fun i h => tnS_5 h, fun i h => tnS_6 h⟩
theorem tnS_cell {σ : Sg} {t b : Nat} {M : Tn} (h : b < t ∨ t + 6 < b) : tnS σ t M b = σ b := by
  funext j
  unfold tnS
  rw [if_neg (by omega), if_neg (by omega), if_neg (by omega), if_neg (by omega), if_neg (by omega), if_neg (by omega)]
theorem tnS_1 {σ : Sg} {t : Nat} {M : Tn} : tnS σ t M (t + 1) = σ (t + 1) := by
  funext j
  unfold tnS
  rw [if_neg (by omega), if_neg (by omega), if_neg (by omega), if_neg (by omega), if_neg (by omega), if_neg (by omega)]
theorem tnS_id {σ : Sg} {t : Nat} {N : Tn} (h : RowT σ t N) : tnS σ t N = σ := by
  funext b j
  unfold tnS
  split
  · rename_i q; rw [q.1]; exact (h.1 j q.2).symm
  split
  · rename_i q; rw [q.1]; exact (h.2.1 j q.2).symm
  split
  · rename_i q; rw [q.1]; exact (h.2.2.1 j q.2).symm
  split
  · rename_i q; rw [q.1]; exact (h.2.2.2.1 j q.2).symm
  split
  · rename_i q; rw [q.1]; exact (h.2.2.2.2.1 j q.2).symm
  split
  · rename_i q; rw [q.1]; exact (h.2.2.2.2.2 j q.2).symm
  · rfl
/-- one write of a town's cells: the place of the row -/
theorem tnS_up {σ : Sg} {t a k i v : Nat} {M : Tn} (h : (a = t ∧ k < 4 ∧ i = k) ∨ (a = t + 2 ∧ k < 25 ∧ i = 156 + k) ∨ (a = t + 3 ∧ k < 8 ∧ i = 4 + k) ∨ (a = t + 4 ∧ k < 40 ∧ i = 12 + k) ∨ (a = t + 5 ∧ k < 96 ∧ i = 52 + k) ∨ (a = t + 6 ∧ k < 8 ∧ i = 148 + k)) : upS (tnS σ t M) a k (v : Int) = tnS σ t (updN M i v) := by
  funext b j
  unfold upS tnS updN
  by_cases e : b = a ∧ j = k
  · rw [if_pos e]
    obtain ⟨e1, e2⟩ := e
    subst e1
    subst e2
    rcases h with ⟨h1, h2, h3⟩ | ⟨h1, h2, h3⟩ | ⟨h1, h2, h3⟩ | ⟨h1, h2, h3⟩ | ⟨h1, h2, h3⟩ | ⟨h1, h2, h3⟩
    · rw [if_pos (by omega), if_pos (by omega)]
    · rw [if_neg (by omega), if_pos (by omega), if_pos (by omega)]
    · rw [if_neg (by omega), if_neg (by omega), if_pos (by omega), if_pos (by omega)]
    · rw [if_neg (by omega), if_neg (by omega), if_neg (by omega), if_pos (by omega), if_pos (by omega)]
    · rw [if_neg (by omega), if_neg (by omega), if_neg (by omega), if_neg (by omega), if_pos (by omega), if_pos (by omega)]
    · rw [if_neg (by omega), if_neg (by omega), if_neg (by omega), if_neg (by omega), if_neg (by omega), if_pos (by omega), if_pos (by omega)]
  · rw [if_neg e]
    by_cases q0 : b = t ∧ j < 4
    · rw [if_pos q0, if_pos q0, if_neg (by omega)]
    rw [if_neg q0, if_neg q0]
    by_cases q2 : b = t + 2 ∧ j < 25
    · rw [if_pos q2, if_pos q2, if_neg (by omega)]
    rw [if_neg q2, if_neg q2]
    by_cases q3 : b = t + 3 ∧ j < 8
    · rw [if_pos q3, if_pos q3, if_neg (by omega)]
    rw [if_neg q3, if_neg q3]
    by_cases q4 : b = t + 4 ∧ j < 40
    · rw [if_pos q4, if_pos q4, if_neg (by omega)]
    rw [if_neg q4, if_neg q4]
    by_cases q5 : b = t + 5 ∧ j < 96
    · rw [if_pos q5, if_pos q5, if_neg (by omega)]
    rw [if_neg q5, if_neg q5]
    by_cases q6 : b = t + 6 ∧ j < 8
    · rw [if_pos q6, if_pos q6, if_neg (by omega)]
    rw [if_neg q6, if_neg q6]
theorem tnS_hold {σ : Sg} {t k v : Nat} {M : Tn} (h : k < 40) : upS (tnS σ t M) (t + 4) k (v : Int) = tnS σ t (updN M (12 + k) v) := tnS_up (Or.inr (Or.inr (Or.inr (Or.inl ⟨rfl, h, rfl⟩))))
theorem tnS_keep {σ : Sg} {t k v : Nat} {M : Tn} (h : k < 8) : upS (tnS σ t M) (t + 6) k (v : Int) = tnS σ t (updN M (148 + k) v) := tnS_up (Or.inr (Or.inr (Or.inr (Or.inr (Or.inr ⟨rfl, h, rfl⟩)))))
theorem tnS_debt {σ : Sg} {t k v : Nat} {M : Tn} (h : k < 25) : upS (tnS σ t M) (t + 2) k (v : Int) = tnS σ t (updN M (156 + k) v) := tnS_up (Or.inr (Or.inl ⟨rfl, h, rfl⟩))
def rwS (σ : Sg) (a off : Nat) (M : Tn) : Sg := fun b j => if b = a ∧ off ≤ j ∧ j < off + 181 then (M (j - off) : Int) else σ b j
theorem rwS_row (σ : Sg) (a off : Nat) (M : Tn) : RowM (rwS σ a off M) a off M := fun j hj => by
  unfold rwS
  rw [if_pos ⟨rfl, by omega, by omega⟩, show off + j - off = j by omega]
theorem rwS_cell {σ : Sg} {a off b : Nat} {M : Tn} (h : b ≠ a) : rwS σ a off M b = σ b := by funext j; exact if_neg (fun q => h q.1)
theorem rwS_id {σ : Sg} {a : Nat} {N : Tn} (h : RowM σ a 0 N) : rwS σ a 0 N = σ := by
  funext b j
  unfold rwS
  split
  · rename_i q
    have := h j (by omega)
    rw [q.1]
    rw [Nat.zero_add] at this
    exact this.symm
  · rfl
theorem rwS_up {σ : Sg} {a i v : Nat} {M : Tn} (h : i < 181) : upS (rwS σ a 0 M) a i (v : Int) = rwS σ a 0 (updN M i v) := by
  funext b j
  unfold upS rwS updN
  by_cases e : b = a ∧ j = i
  · rw [if_pos e, if_pos (by omega), if_pos (by omega)]
  · rw [if_neg e]
    by_cases q : b = a ∧ 0 ≤ j ∧ j < 0 + 181
    · rw [if_pos q, if_pos q, if_neg (by omega)]
    · rw [if_neg q, if_neg q]
/-! what the class's calls may change, what the reference's -/
def FrC (σ τ : Sg) : Prop := Fr2 σ τ ∧ ∀ a, 66 ≤ a ∧ a < 80 → τ a = σ a
def FrR (σ τ : Sg) : Prop := Fr2 σ τ ∧ ∀ a, a < 66 → τ a = σ a
theorem FrC.refl (σ : Sg) : FrC σ σ := ⟨(Fr.refl σ).to2, fun _ _ => rfl⟩
theorem FrR.refl (σ : Sg) : FrR σ σ := ⟨(Fr.refl σ).to2, fun _ _ => rfl⟩
theorem FrC.trans {σ τ υ : Sg} (h : FrC σ τ) (g : FrC τ υ) : FrC σ υ := ⟨h.1.trans g.1, fun a ha => (g.2 a ha).trans (h.2 a ha)⟩
theorem FrR.trans {σ τ υ : Sg} (h : FrR σ τ) (g : FrR τ υ) : FrR σ υ := ⟨h.1.trans g.1, fun a ha => (g.2 a ha).trans (h.2 a ha)⟩
/-- cells that differ are scratch or the town's, and below 66 -/
theorem FrC.of {σ τ : Sg} (h : ∀ a, (a ∉ scr ∧ a ∉ twc) ∨ (66 ≤ a ∧ a < 80) → τ a = σ a) : FrC σ τ := ⟨⟨fun a h1 h2 => h a (Or.inl ⟨h1, h2⟩), by rw [h 66 (Or.inr (by decide))], by rw [h 66 (Or.inr (by decide))], by rw [h 66 (Or.inr (by decide))]⟩, fun a ha => h a (Or.inr ha)⟩
theorem FrC.tn {σ τ : Sg} {M : Tn} (h : FrC σ τ) : FrC σ (tnS τ 7 M) := h.trans (FrC.of (fun a ha => tnS_cell (by
  by_cases q : a < 7 ∨ 7 + 6 < a
  · exact q
  · exfalso
    rcases ha with ⟨_, h2⟩ | h2
    · exact h2 ((by decide : ∀ z : Fin 7, 7 + z.val ∈ twc) ⟨a - 7, by omega⟩ |> fun e => by
        have e : 7 + (a - 7) ∈ twc := e
        rw [show 7 + (a - 7) = a by omega] at e
        exact e)
    · omega)))
theorem FrC.cell {σ τ υ : Sg} {c : Nat} (h : FrC σ τ) (hc : c ∈ scr) (h6 : c < 66) (e : ∀ b, b ≠ c → υ b = τ b) : FrC σ υ := h.trans (FrC.of (fun a ha => e a (fun q => by
  rcases ha with ⟨h1, _⟩ | h1
  · exact h1 (by rw [q]; exact hc)
  · omega)))
theorem FrR.cell {σ τ υ : Sg} {c : Nat} (h : FrR σ τ) (hc : c ∈ scr) (h6 : 66 < c) (e : ∀ b, b ≠ c → υ b = τ b) : FrR σ υ := h.trans ⟨⟨fun a h1 _ => e a (fun q => h1 (by rw [q]; exact hc)), by rw [e 66 (by omega)], by rw [e 66 (by omega)], by rw [e 66 (by omega)]⟩, fun a ha => e a (by omega)⟩
theorem FrR.rw67 {σ τ : Sg} {M : Tn} (h : FrR σ τ) : FrR σ (rwS τ 67 0 M) := h.trans ⟨⟨fun a _ h2 => rwS_cell (fun q => h2 (by rw [q]; decide)), by rw [rwS_cell (by decide)], by rw [rwS_cell (by decide)], by rw [rwS_cell (by decide)]⟩, fun a ha => rwS_cell (by omega)⟩
theorem FrR.ups66 {σ τ : Sg} {k : Nat} {v : Int} (h : FrR σ τ) (h7 : k ≠ 7) (h15 : k ≠ 15) (h16 : k ≠ 16) : FrR σ (upS τ 66 k v) := h.trans ⟨⟨fun a h1 _ => ups_cell (fun q => h1 (by rw [q]; decide)), ups_ne (Or.inr (Ne.symm h7)), ups_ne (Or.inr (Ne.symm h15)), ups_ne (Or.inr (Ne.symm h16))⟩, fun a ha => ups_cell (by omega)⟩
theorem ag80_fr2 {σ τ : Sg} (h : ag80 σ τ) : Fr2 σ τ := (ag80_fr h).to2
/-- the end of a call that writes the town -/
theorem wr_end {ω : Nat → Int} {σ σ1 τ σ2 : Sg} {M : Tn} (hI : Inv ω σ) (c : FrC σ σ1) (hT : RowT σ1 7 M) (ha : ag80 σ1 τ) (r : FrR τ σ2) (hM : RowM σ2 67 0 M) (hW : WFN M) : Inv ω σ2 := by
  refine Inv_fr2 hI ((c.1.trans (ag80_fr2 ha)).trans r.1) ⟨RowT_fr hT ?_, hM, hW⟩
  intro i hi
  rw [r.2 _ (by omega), ha _ (by omega)]
theorem RowM_c {σ σ1 τ : Sg} {N : Tn} (h : RowM σ 67 0 N) (c : FrC σ σ1) (ha : ag80 σ1 τ) : RowM τ 67 0 N := RowM_cell h (by rw [ha 67 (by decide), c.2 67 (by decide)])
theorem RowM_r {σ τ : Sg} {N : Tn} {a off : Nat} (h : RowM σ a off N) (e : τ a = σ a) : RowM τ a off N := RowM_cell h e
/-- come: a coin's count -/
theorem ctX8_come {d p c t v : Nat} {z : Int} {M : Tn} (hd : 1 ≤ d) (hp : p < 5) (hc : c < 8) (hv : (hN M p c : Int) + z = (v : Int)) (hv2 : v < 2147483648) {σ : Sg} : Ct d MX8_come [rV 17 t, iV (p : Int), iV (c : Int), iV z] (tnS σ t M) (.inl []) (tnS σ t (updN M (12 + (8 * p + c)) v)) := by
  refine (eX8_come (d := 0) ?_).mono hd
  intro X Xr Xt hC hr
  refine bX8_come_0 hC ?_
  rw [if_neg (by omega), if_pos (by omega), if_neg (by omega), if_pos (by omega), w_held (by omega) (by omega)]
  refine ⟨by omega, by omega, ?_⟩
  have e : M (12 + (8 * p + c)) = hN M p c := by unfold hN; rw [← Nat.add_assoc]
  rw [Int.toNat_natCast, tnS_4 (by omega), e, hv, w32_n hv2, tnS_hold (by omega)]
  exact hr
theorem updN_same (N : Tn) (i : Nat) : updN N i (N i) = N := by
  funext j
  unfold updN
  split
  · rename_i h; rw [h]
  · rfl
/-- the same town but for purses and treasury: its good state -/
theorem WFN_purse {N M : Tn} (h : WFN N) (e : ∀ j, j < 12 ∨ (52 ≤ j ∧ j < 148) ∨ 156 ≤ j → M j = N j) (hp : ∀ p, p < 5 → sumN (hN M p) 8 ≤ 9) (hz : ∀ p c, p < 5 → c < 8 → N 2 ≤ p ∨ N 1 ≤ c → hN M p c = 0) (hk : ∀ c, c < 8 → M (148 + c) ≤ 999 ∧ (N 1 ≤ c → M (148 + c) = 0)) : WFN M := by
  have es : ∀ k s, k < 6 → s < 2 → ∀ c, c < 8 → sN M k s c = sN N k s c := fun k s hk hs c hc => e _ (Or.inr (Or.inl ⟨by omega, by omega⟩))
  have eo : ∀ p q, oN M p q = oN N p q := fun p q => e _ (Or.inr (Or.inr (by omega)))
  have e0 := e 0 (by omega)
  have e1 := e 1 (by omega)
  have e2 := e 2 (by omega)
  have e3 := e 3 (by omega)
  have h8 := h.1.1
  refine ⟨?_, ?_, ?_, ?_, ?_, ?_, ?_, ?_, ?_, ?_⟩
  · rw [e0, e1, e2, e3]; exact h.1
  · intro c hc; rw [e1] at hc; rw [e (4 + c) (by omega)]; exact h.2.1 c hc
  · intro c d hc hd; rw [e1] at hc hd; rw [e (4 + c) (by omega), e (4 + d) (by omega)]; exact h.2.2.1 c d hc hd
  · exact hp
  · intro p c hp hc; rw [e1, e2]; exact hz p c hp hc
  · intro k s hk hs; rw [sumN_congr (es k s hk hs)]; exact h.2.2.2.2.2.1 k s hk hs
  · intro k s c hk hs hc; rw [e1, e3, es k s hk hs c hc]; exact h.2.2.2.2.2.2.1 k s c hk hs hc
  · intro c hc; rw [e1]; exact hk c hc
  · intro p q hp hq; rw [e2, eo]; exact h.2.2.2.2.2.2.2.2.1 p q hp hq
  · intro c hc; rw [e1, e (4 + c) (by omega)]; exact h.2.2.2.2.2.2.2.2.2 c hc
/-- handing over: k coins have gone -/
def mvN (N : Tn) (p q : Nat) (a : Nat → Nat) (k : Nat) : Tn := fun j => if 12 + 8 * p ≤ j ∧ j < 12 + 8 * p + k then N j - a (j - (12 + 8 * p)) else if 12 + 8 * q ≤ j ∧ j < 12 + 8 * q + k then N j + a (j - (12 + 8 * q)) else N j
theorem mvN_0 (N : Tn) (p q : Nat) (a : Nat → Nat) : mvN N p q a 0 = N := by
  funext j
  unfold mvN
  rw [if_neg (by omega), if_neg (by omega)]
theorem mvN_p {N : Tn} {p q c k : Nat} {a : Nat → Nat} : hN (mvN N p q a k) p c = if c < k then hN N p c - a c else if 12 + 8 * q ≤ 12 + 8 * p + c ∧ 12 + 8 * p + c < 12 + 8 * q + k then hN N p c + a (12 + 8 * p + c - (12 + 8 * q)) else hN N p c := by
  unfold hN mvN
  by_cases h : c < k
  · rw [if_pos (by omega), if_pos h, show 12 + 8 * p + c - (12 + 8 * p) = c by omega]
  · rw [if_neg (by omega), if_neg h]
theorem mvN_s {N : Tn} {p q k : Nat} {a : Nat → Nat} (hne : p ≠ q) (hk : k < 8) : updN (updN (mvN N p q a k) (12 + (8 * p + k)) (hN N p k - a k)) (12 + (8 * q + k)) (hN N q k + a k) = mvN N p q a (k + 1) := by
  funext j
  unfold updN mvN hN
  by_cases e1 : j = 12 + (8 * q + k)
  · rw [if_pos e1, if_neg (by omega), if_pos (by omega), show j - (12 + 8 * q) = k by omega, e1, Nat.add_assoc 12 (8 * q) k]
  rw [if_neg e1]
  by_cases e2 : j = 12 + (8 * p + k)
  · rw [if_pos e2, if_pos (by omega), show j - (12 + 8 * p) = k by omega, e2, Nat.add_assoc 12 (8 * p) k]
  rw [if_neg e2]
  by_cases e3 : 12 + 8 * p ≤ j ∧ j < 12 + 8 * p + k
  · rw [if_pos e3, if_pos (by omega)]
  rw [if_neg e3, if_neg (show ¬ (12 + 8 * p ≤ j ∧ j < 12 + 8 * p + (k + 1)) by omega)]
  by_cases e4 : 12 + 8 * q ≤ j ∧ j < 12 + 8 * q + k
  · rw [if_pos e4, if_pos (by omega)]
  rw [if_neg e4, if_neg (show ¬ (12 + 8 * q ≤ j ∧ j < 12 + 8 * q + (k + 1)) by omega)]
theorem mvN_hp {N : Tn} {p q c k : Nat} {a : Nat → Nat} (hne : p ≠ q) (hk : k ≤ 8) (hc : c < 8) : hN (mvN N p q a k) p c = if c < k then hN N p c - a c else hN N p c := by
  unfold hN mvN
  by_cases h : c < k
  · rw [if_pos (by omega), if_pos h, show 12 + 8 * p + c - (12 + 8 * p) = c by omega]
  · rw [if_neg (by omega), if_neg h, if_neg (by omega)]
theorem mvN_hq {N : Tn} {p q c k : Nat} {a : Nat → Nat} (hne : p ≠ q) (hk : k ≤ 8) (hc : c < 8) : hN (mvN N p q a k) q c = if c < k then hN N q c + a c else hN N q c := by
  unfold hN mvN
  by_cases h : c < k
  · rw [if_neg (by omega), if_pos (by omega), if_pos h, show 12 + 8 * q + c - (12 + 8 * q) = c by omega]
  · rw [if_neg (by omega), if_neg h, if_neg (by omega)]
theorem mvN_ho {N : Tn} {p q r c k : Nat} {a : Nat → Nat} (h1 : r ≠ p) (h2 : r ≠ q) (hk : k ≤ 8) (hc : c < 8) : hN (mvN N p q a k) r c = hN N r c := by
  unfold hN mvN
  rw [if_neg (by omega), if_neg (by omega)]
theorem mvN_lo {N : Tn} {p q j k : Nat} {a : Nat → Nat} (hp : p < 5) (hq : q < 5) (hk : k ≤ 8) (h : j < 12 ∨ 52 ≤ j) : mvN N p q a k j = N j := by
  unfold mvN
  rw [if_neg (by omega), if_neg (by omega)]
theorem mvN_wf {N : Tn} {p q : Nat} {a : Nat → Nat} (hW : WFN N) (hp : p < N 2) (hq : q < N 2) (hne : p ≠ q) (hz : ∀ j, N 1 ≤ j → a j = 0) (hs : mN N q + sumN a 8 ≤ 9) : WFN (mvN N p q a (N 1)) := by
  have h5 := hW.1.2.1
  have h8 := hW.1.1
  refine WFN_purse hW (fun j hj => mvN_lo (by omega) (by omega) h8 (by omega)) ?_ ?_ ?_
  · intro r hr
    by_cases e1 : r = p
    · rw [e1, sumN_congr (fun c hc => mvN_hp hne h8 hc)]
      exact Nat.le_trans (sumN_le (g := hN N p) (fun c hc => by show (if c < N 1 then hN N p c - a c else hN N p c) ≤ hN N p c; split <;> omega)) (hW.2.2.2.1 p (by omega))
    · by_cases e2 : r = q
      · rw [e2, sumN_congr (g := fun c => hN N q c + a c) (fun c hc => by
          rw [mvN_hq hne h8 hc]
          show (if c < N 1 then hN N q c + a c else hN N q c) = hN N q c + a c
          split
          · rfl
          · rw [hz c (by omega)]; rfl)]
        rw [sumN_add, ← mN_8 hW (by omega)]
        exact hs
      · rw [sumN_congr (fun c hc => mvN_ho e1 e2 h8 hc)]
        exact hW.2.2.2.1 r hr
  · intro r c hr hc hh
    have h0 := hW.2.2.2.2.1 r c hr hc hh
    by_cases e1 : r = p
    · have hc1 : ¬ c < N 1 := by omega
      rw [e1] at h0
      rw [e1, mvN_hp hne h8 hc, if_neg hc1]
      exact h0
    · by_cases e2 : r = q
      · have hc1 : ¬ c < N 1 := by omega
        rw [e2] at h0
        rw [e2, mvN_hq hne h8 hc, if_neg hc1]
        exact h0
      · rw [mvN_ho e1 e2 h8 hc]
        exact h0
  · intro c hc
    rw [mvN_lo (by omega) (by omega) h8 (by omega)]
    exact hW.2.2.2.2.2.2.2.1 c hc
theorem ctX8_handOver {d p q : Nat} {N : Tn} {a : Nat → Nat} (hd : 2 ≤ d) (hW : WFN N) (hp : p < N 2) (hq : q < N 2) (hne : p ≠ q) {σ : Sg} (hR : RowT σ 7 N) (ha : ∀ j, j < 8 → σ 53 j = (a j : Int)) (hle : ∀ c, c < N 1 → a c ≤ hN N p c) : Ct d MX8_handOver [rV 17 7, iV (p : Int), iV (q : Int), rV 1000008 53] σ (.inl [iV (sumN a (N 1) : Int)]) (tnS σ 7 (mvN N p q a (N 1))) := by
  have h5 := hW.1.2.1
  have h8 := hW.1.1
  refine (eX8_handOver (d := 1) ?_).mono hd
  intro X Xr Xt hC hr
  refine bX8_handOver_0 hC ?_
  have hsm : ∀ k, k ≤ N 1 → sumN a k ≤ k * 9 := fun k hk => sumN_bound (fun i hi => by have := hle i (by omega); have := hN_le hW (show p < 5 by omega) (show i < 8 by omega); omega)
  have hn1 : ∀ k, tnS σ 7 (mvN N p q a k) 7 1 = (N 1 : Int) := fun k => by rw [tnS_0 (by decide)]; exact congrArg _ (by unfold mvN; rw [if_neg (by omega), if_neg (by omega)])
  have key : ∀ k, k ≤ N 1 → X 6 [rV 17 7, iV (p : Int), iV (q : Int), rV 1000008 53, iV (sumN a k : Int), iV (k : Int)] [] (tnS σ 7 (mvN N p q a k)) := by
    refine loop_up (P := fun k => X 6 [rV 17 7, iV (p : Int), iV (q : Int), rV 1000008 53, iV (sumN a k : Int), iV (k : Int)] [] (tnS σ 7 (mvN N p q a k))) ?_ ?_
    · refine bX8_handOver_6 hC ?_
      rw [hn1, if_neg (by omega)]
      exact hr
    · intro k hk ih
      have h1 := hle k hk
      have h2 := hN_le hW (show p < 5 by omega) (show k < 8 by omega)
      have h3 := hN_le hW (show q < 5 by omega) (show k < 8 by omega)
      refine bX8_handOver_6 hC ?_
      rw [hn1, if_pos (by omega), if_pos (by omega)]
      have e53 : ∀ M, tnS σ 7 M 53 k = (a k : Int) := fun M => by rw [tnS_cell (by omega)]; exact ha k (by omega)
      have hsk := hsm (k + 1) hk
      rw [sumN_s] at hsk
      rw [Int.toNat_natCast, e53, show w32 (-(a k : Int)) = -(a k : Int) by unfold w32; omega]
      refine ⟨by omega, _, ctX8_come (v := hN N p k - a k) (by decide) (by omega) (by omega) (by rw [mvN_hp hne (by omega) (by omega), if_neg (by omega)]; omega) (by omega), by omega, ?_⟩
      rw [e53]
      refine ⟨_, ctX8_come (v := hN N q k + a k) (by decide) (by omega) (by omega) ?_ (by omega), by omega, ?_⟩
      · have : hN (updN (mvN N p q a k) (12 + (8 * p + k)) (hN N p k - a k)) q k = hN N q k := by
          have e := mvN_hq (N := N) (a := a) hne (show k ≤ 8 by omega) (show k < 8 by omega)
          rw [if_neg (by omega)] at e
          rw [← e]
          exact updN_ne (by omega)
        rw [this]
        omega
      · rw [e53, mvN_s hne (by omega), w32_s (by omega), ← Int.natCast_add, w32_n (by omega)]
        exact ih
  have := key 0 (Nat.zero_le _)
  rw [mvN_0, tnS_id hR] at this
  exact this
