/-! FRAME of the calls that write the town -/
def twc : List Nat := [7, 8, 9, 10, 11, 12, 13, 67]
def Fr2 (σ τ : Sg) : Prop := (∀ a, a ∉ scr → a ∉ twc → τ a = σ a) ∧ τ 66 7 = σ 66 7 ∧ τ 66 15 = σ 66 15 ∧ τ 66 16 = σ 66 16
theorem Fr.to2 {σ τ : Sg} (h : Fr σ τ) : Fr2 σ τ := ⟨fun a h1 _ => h.1 a h1, h.2⟩
theorem Fr2.trans {σ τ υ : Sg} (h : Fr2 σ τ) (g : Fr2 τ υ) : Fr2 σ υ := ⟨fun a h1 h2 => (g.1 a h1 h2).trans (h.1 a h1 h2), g.2.1.trans h.2.1, g.2.2.1.trans h.2.2.1, g.2.2.2.trans h.2.2.2⟩
theorem Fr2.upt {σ τ : Sg} {a k : Nat} {v : Int} (h : Fr2 σ τ) (ha : a ∈ twc) (h6 : a ≠ 66) : Fr2 σ (upS τ a k v) := ⟨fun b hb hc => by rw [ups_cell (fun e => hc (by rw [e]; exact ha))]; exact h.1 b hb hc, by rw [ups_ne (Or.inl (Ne.symm h6))]; exact h.2.1, by rw [ups_ne (Or.inl (Ne.symm h6))]; exact h.2.2.1, by rw [ups_ne (Or.inl (Ne.symm h6))]; exact h.2.2.2⟩
theorem Inv_fr2 {ω : Nat → Int} {σ τ : Sg} {M : Tn} (h : Inv ω σ) (f : Fr2 σ τ) (hM : InvN τ M) : Inv ω τ := by
  obtain ⟨_, h2, ⟨n, p1, p2, p3, p4, p5, p6⟩, h4, h5⟩ := h
  refine ⟨⟨M, hM⟩, ?_, ⟨n, p1, ?_, ?_, ?_, ?_, ?_⟩, ?_, ?_⟩
  · intro i hi
    have := h2 i hi
    rw [f.1 43 (by decide) (by decide), f.1 71 (by decide) (by decide)]
    refine ⟨this.1, this.2.1, ?_⟩
    intro e
    obtain ⟨N, g1, g2, g3⟩ := this.2.2 e
    refine ⟨N, RowT_fr g1 ?_, RowM_cell g2 (f.1 70 (by decide) (by decide)), g3⟩
    intro k hk
    refine f.1 _ ?_ ?_
    · exact (by decide : ∀ q : Fin 3, ∀ z : Fin 7, 22 + 7 * q.val + z.val ∉ scr) ⟨i, hi⟩ ⟨k, by omega⟩
    · exact (by decide : ∀ q : Fin 3, ∀ z : Fin 7, 22 + 7 * q.val + z.val ∉ twc) ⟨i, hi⟩ ⟨k, by omega⟩
  · rw [f.1 0 (by decide) (by decide)]; exact p2
  · rw [f.2.1]; exact p3
  · rw [f.1 6 (by decide) (by decide), f.1 72 (by decide) (by decide)]; exact p4
  · rw [f.1 0 (by decide) (by decide), f.2.2.1]; exact p5
  · rw [f.1 0 (by decide) (by decide), f.2.2.2]; exact p6
  · intro i hi
    rw [f.1 (45 + 2 * i) ((by decide : ∀ q : Fin 4, 45 + 2 * q.val ∉ scr) ⟨i, hi⟩) ((by decide : ∀ q : Fin 4, 45 + 2 * q.val ∉ twc) ⟨i, hi⟩), f.1 (46 + 2 * i) ((by decide : ∀ q : Fin 4, 46 + 2 * q.val ∉ scr) ⟨i, hi⟩) ((by decide : ∀ q : Fin 4, 46 + 2 * q.val ∉ twc) ⟨i, hi⟩), f.1 77 (by decide) (by decide), f.1 78 (by decide) (by decide), f.1 79 (by decide) (by decide)]
    exact h4 i hi
  · exact (f.1 62 (by decide) (by decide)).trans h5
