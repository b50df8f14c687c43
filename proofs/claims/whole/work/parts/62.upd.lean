/-! WRITES to a row -/
def updN (N : Tn) (i v : Nat) : Tn := fun j => if j = i then v else N j
theorem updN_eq (N : Tn) (i v : Nat) : updN N i v i = v := if_pos rfl
theorem updN_ne {N : Tn} {i v j : Nat} (h : j ≠ i) : updN N i v j = N j := if_neg h
theorem RowM_upd {σ : Sg} {a off j v : Nat} {N : Tn} (h : RowM σ a off N) : RowM (upS σ a (off + j) (v : Int)) a off (updN N j v) := by
  intro i hi
  by_cases e : i = j
  · rw [e, ups_eq, updN_eq]
  · rw [ups_ne (Or.inr (by omega)), updN_ne e]
    exact h i hi
theorem RowM_upd0 {σ : Sg} {a j v : Nat} {N : Tn} (h : RowM σ a 0 N) : RowM (upS σ a j (v : Int)) a 0 (updN N j v) := by
  have := RowM_upd (j := j) (v := v) h
  rw [Nat.zero_add] at this
  exact this
theorem RowT_debt {σ : Sg} {t k v : Nat} {N : Tn} (h : RowT σ t N) (hk : k < 25) : RowT (upS σ (t + 2) k (v : Int)) t (updN N (156 + k) v) := by
  refine ⟨?_, ?_, ?_, ?_, ?_, ?_⟩
  · intro i hi; rw [ups_ne (Or.inl (by omega)), updN_ne (by omega)]; exact h.1 i hi
  · intro i hi
    by_cases e : i = k
    · rw [e, ups_eq, updN_eq]
    · rw [ups_ne (Or.inr e), updN_ne (by omega)]; exact h.2.1 i hi
  · intro i hi; rw [ups_ne (Or.inl (by omega)), updN_ne (by omega)]; exact h.2.2.1 i hi
  · intro i hi; rw [ups_ne (Or.inl (by omega)), updN_ne (by omega)]; exact h.2.2.2.1 i hi
  · intro i hi; rw [ups_ne (Or.inl (by omega)), updN_ne (by omega)]; exact h.2.2.2.2.1 i hi
  · intro i hi; rw [ups_ne (Or.inl (by omega)), updN_ne (by omega)]; exact h.2.2.2.2.2 i hi
theorem RowT_hold {σ : Sg} {t k v : Nat} {N : Tn} (h : RowT σ t N) (hk : k < 40) : RowT (upS σ (t + 4) k (v : Int)) t (updN N (12 + k) v) := by
  refine ⟨?_, ?_, ?_, ?_, ?_, ?_⟩
  · intro i hi; rw [ups_ne (Or.inl (by omega)), updN_ne (by omega)]; exact h.1 i hi
  · intro i hi; rw [ups_ne (Or.inl (by omega)), updN_ne (by omega)]; exact h.2.1 i hi
  · intro i hi; rw [ups_ne (Or.inl (by omega)), updN_ne (by omega)]; exact h.2.2.1 i hi
  · intro i hi
    by_cases e : i = k
    · rw [e, ups_eq, updN_eq]
    · rw [ups_ne (Or.inr e), updN_ne (by omega)]; exact h.2.2.2.1 i hi
  · intro i hi; rw [ups_ne (Or.inl (by omega)), updN_ne (by omega)]; exact h.2.2.2.2.1 i hi
  · intro i hi; rw [ups_ne (Or.inl (by omega)), updN_ne (by omega)]; exact h.2.2.2.2.2 i hi
theorem RowT_keep {σ : Sg} {t k v : Nat} {N : Tn} (h : RowT σ t N) (hk : k < 8) : RowT (upS σ (t + 6) k (v : Int)) t (updN N (148 + k) v) := by
  refine ⟨?_, ?_, ?_, ?_, ?_, ?_⟩
  · intro i hi; rw [ups_ne (Or.inl (by omega)), updN_ne (by omega)]; exact h.1 i hi
  · intro i hi; rw [ups_ne (Or.inl (by omega)), updN_ne (by omega)]; exact h.2.1 i hi
  · intro i hi; rw [ups_ne (Or.inl (by omega)), updN_ne (by omega)]; exact h.2.2.1 i hi
  · intro i hi; rw [ups_ne (Or.inl (by omega)), updN_ne (by omega)]; exact h.2.2.2.1 i hi
  · intro i hi; rw [ups_ne (Or.inl (by omega)), updN_ne (by omega)]; exact h.2.2.2.2.1 i hi
  · intro i hi
    by_cases e : i = k
    · rw [e, ups_eq, updN_eq]
    · rw [ups_ne (Or.inr e), updN_ne (by omega)]; exact h.2.2.2.2.2 i hi
/-- a town with another row below 156 the same, and good debts -/
theorem WFN_low {N M : Tn} (h : WFN N) (e : ∀ j, j < 156 → M j = N j) (ho : ∀ p q, p < 5 → q < 5 → 1 ≤ oN M p q ∧ oN M p q ≤ 1000000000 ∧ (p = q ∨ N 2 ≤ p ∨ N 2 ≤ q → oN M p q = 1)) : WFN M := by
  have eh : ∀ p, p < 5 → ∀ c, c < 8 → hN M p c = hN N p c := fun p hp c hc => e _ (by omega)
  have es : ∀ k s, k < 6 → s < 2 → ∀ c, c < 8 → sN M k s c = sN N k s c := fun k s hk hs c hc => e _ (by omega)
  have e0 := e 0 (by omega)
  have e1 := e 1 (by omega)
  have e2 := e 2 (by omega)
  have e3 := e 3 (by omega)
  have h8 := h.1.1
  refine ⟨?_, ?_, ?_, ?_, ?_, ?_, ?_, ?_, ?_, ?_⟩
  · rw [e0, e1, e2, e3]; exact h.1
  · intro c hc; rw [e1] at hc; rw [e (4 + c) (by omega)]; exact h.2.1 c hc
  · intro c d hc hd; rw [e1] at hc hd; rw [e (4 + c) (by omega), e (4 + d) (by omega)]; exact h.2.2.1 c d hc hd
  · intro p hp; rw [sumN_congr (eh p hp)]; exact h.2.2.2.1 p hp
  · intro p c hp hc; rw [e1, e2, eh p hp c hc]; exact h.2.2.2.2.1 p c hp hc
  · intro k s hk hs; rw [sumN_congr (es k s hk hs)]; exact h.2.2.2.2.2.1 k s hk hs
  · intro k s c hk hs hc; rw [e1, e3, es k s hk hs c hc]; exact h.2.2.2.2.2.2.1 k s c hk hs hc
  · intro c hc; rw [e1, e (148 + c) (by omega)]; exact h.2.2.2.2.2.2.2.1 c hc
  · intro p q hp hq; rw [e2]; exact ho p q hp hq
  · intro c hc; rw [e1, e (4 + c) (by omega)]; exact h.2.2.2.2.2.2.2.2.2 c hc
theorem WFN_debt {N : Tn} {p q v : Nat} (h : WFN N) (hp : p < N 2) (hq : q < N 2) (hne : p ≠ q) (h1 : 1 ≤ v) (h9 : v ≤ 1000000000) : WFN (updN N (156 + (5 * p + q)) v) := by
  have h5 := h.1.2.1
  refine WFN_low h (fun j hj => updN_ne (by omega)) ?_
  intro a b ha hb
  by_cases e : a = p ∧ b = q
  · have : oN (updN N (156 + (5 * p + q)) v) a b = v := by
      rw [e.1, e.2]
      unfold oN
      rw [Nat.add_assoc]
      exact updN_eq _ _ _
    rw [this]
    exact ⟨h1, h9, fun z => by omega⟩
  · have : oN (updN N (156 + (5 * p + q)) v) a b = oN N a b := by
      unfold oN
      exact updN_ne (by omega)
    rw [this]
    exact h.2.2.2.2.2.2.2.2.1 a b ha hb
