/-! WRITES to a row -/
def updN (N : Tn) (i v : Nat) : Tn := fun j => if j = i then v else N j
theorem updN_eq (N : Tn) (i v : Nat) : updN N i v i = v := if_pos rfl
theorem updN_ne {N : Tn} {i v j : Nat} (h : j ≠ i) : updN N i v j = N j := if_neg h
theorem RowM_upd {σ : Sg} {a off j v : Nat} {N : Tn} (h : RowM σ a off N) : RowM (upS σ a (off + j) (v : Int)) a off (updN N j v) := by
  intro i hi
  by_cases e : i = j
  · rw [e, ups_eq, updN_eq]
  · rw [ups_ne (Or.inr (by omega)), updN_ne e]
    exact h i hi
theorem RowM_upd0 {σ : Sg} {a j v : Nat} {N : Tn} (h : RowM σ a 0 N) : RowM (upS σ a j (v : Int)) a 0 (updN N j v) := by
  have := RowM_upd (j := j) (v := v) h
  rw [Nat.zero_add] at this
  exact this
theorem RowT_debt {σ : Sg} {t k v : Nat} {N : Tn} (h : RowT σ t N) (hk : k < 25) : RowT (upS σ (t + 2) k (v : Int)) t (updN N (156 + k) v) := by
  refine ⟨?_, ?_, ?_, ?_, ?_, ?_⟩
  · intro i hi; rw [ups_ne (Or.inl (by omega)), updN_ne (by omega)]; exact h.1 i hi
  · intro i hi
    by_cases e : i = k
    · rw [e, ups_eq, updN_eq]
    · rw [ups_ne (Or.inr e), updN_ne (by omega)]; exact h.2.1 i hi
  · intro i hi; rw [ups_ne (Or.inl (by omega)), updN_ne (by omega)]; exact h.2.2.1 i hi
  · intro i hi; rw [ups_ne (Or.inl (by omega)), updN_ne (by omega)]; exact h.2.2.2.1 i hi
  · intro i hi; rw [ups_ne (Or.inl (by omega)), updN_ne (by omega)]; exact h.2.2.2.2.1 i hi
  · intro i hi; rw [ups_ne (Or.inl (by omega)), updN_ne (by omega)]; exact h.2.2.2.2.2 i hi
theorem RowT_hold {σ : Sg} {t k v : Nat} {N : Tn} (h : RowT σ t N) (hk : k < 40) : RowT (upS σ (t + 4) k (v : Int)) t (updN N (12 + k) v) := by
  refine ⟨?_, ?_, ?_, ?_, ?_, ?_⟩
  · intro i hi; rw [ups_ne (Or.inl (by omega)), updN_ne (by omega)]; exact h.1 i hi
  · intro i hi; rw [ups_ne (Or.inl (by omega)), updN_ne (by omega)]; exact h.2.1 i hi
  · intro i hi; rw [ups_ne (Or.inl (by omega)), updN_ne (by omega)]; exact h.2.2.1 i hi
  · intro i hi
    by_cases e : i = k
    · rw [e, ups_eq, updN_eq]
    · rw [ups_ne (Or.inr e), updN_ne (by omega)]; exact h.2.2.2.1 i hi
  · intro i hi; rw [ups_ne (Or.inl (by omega)), updN_ne (by omega)]; exact h.2.2.2.2.1 i hi
  · intro i hi; rw [ups_ne (Or.inl (by omega)), updN_ne (by omega)]; exact h.2.2.2.2.2 i hi
theorem RowT_keep {σ : Sg} {t k v : Nat} {N : Tn} (h : RowT σ t N) (hk : k < 8) : RowT (upS σ (t + 6) k (v : Int)) t (updN N (148 + k) v) := by
  refine ⟨?_, ?_, ?_, ?_, ?_, ?_⟩
  · intro i hi; rw [ups_ne (Or.inl (by omega)), updN_ne (by omega)]; exact h.1 i hi
  · intro i hi; rw [ups_ne (Or.inl (by omega)), updN_ne (by omega)]; exact h.2.1 i hi
  · intro i hi; rw [ups_ne (Or.inl (by omega)), updN_ne (by omega)]; exact h.2.2.1 i hi
  · intro i hi; rw [ups_ne (Or.inl (by omega)), updN_ne (by omega)]; exact h.2.2.2.1 i hi
  · intro i hi; rw [ups_ne (Or.inl (by omega)), updN_ne (by omega)]; exact h.2.2.2.2.1 i hi
  · intro i hi
    by_cases e : i = k
    · rw [e, ups_eq, updN_eq]
    · rw [ups_ne (Or.inr e), updN_ne (by omega)]; exact h.2.2.2.2.2 i hi
