/-! WHAT BOTH SIDES KEEP between calls -/
def scr : List Nat := [14, 15, 16, 17, 18, 19, 20, 53, 54, 55, 56, 57, 58, 59, 60, 61, 63, 64, 65, 66, 68, 69, 73, 74, 75, 76, 80, 81, 82, 83, 84, 85, 86, 87, 88]
/-- the scratch cells aside nothing has changed -/
def Fr (σ τ : Sg) : Prop := (∀ a, a ∉ scr → τ a = σ a) ∧ τ 66 7 = σ 66 7 ∧ τ 66 15 = σ 66 15 ∧ τ 66 16 = σ 66 16
theorem Fr.refl (σ : Sg) : Fr σ σ := ⟨fun _ _ => rfl, rfl, rfl, rfl⟩
theorem Fr.trans {σ τ υ : Sg} (h : Fr σ τ) (g : Fr τ υ) : Fr σ υ := ⟨fun a ha => (g.1 a ha).trans (h.1 a ha), g.2.1.trans h.2.1, g.2.2.1.trans h.2.2.1, g.2.2.2.trans h.2.2.2⟩
theorem Fr.ups {σ τ : Sg} {a k : Nat} {v : Int} (h : Fr σ τ) (ha : a ∈ scr) (h6 : a ≠ 66) : Fr σ (upS τ a k v) := ⟨fun b hb => by rw [ups_cell (fun e => hb (by rw [e]; exact ha))]; exact h.1 b hb, by rw [ups_ne (Or.inl (Ne.symm h6))]; exact h.2.1, by rw [ups_ne (Or.inl (Ne.symm h6))]; exact h.2.2.1, by rw [ups_ne (Or.inl (Ne.symm h6))]; exact h.2.2.2⟩
theorem Fr.ups66 {σ τ : Sg} {k : Nat} {v : Int} (h : Fr σ τ) (h7 : k ≠ 7) (h15 : k ≠ 15) (h16 : k ≠ 16) : Fr σ (upS τ 66 k v) := ⟨fun b hb => by rw [ups_cell (fun e => hb (by rw [e]; decide))]; exact h.1 b hb, by rw [ups_ne (Or.inr (Ne.symm h7))]; exact h.2.1, by rw [ups_ne (Or.inr (Ne.symm h15))]; exact h.2.2.1, by rw [ups_ne (Or.inr (Ne.symm h16))]; exact h.2.2.2⟩
theorem Fr.fl {σ τ : Sg} {a n : Nat} {v : Int} (h : Fr σ τ) (ha : a ∈ scr) (h6 : a ≠ 66) : Fr σ (flS τ a n v) := ⟨fun b hb => by rw [flS_cell (fun e => hb (by rw [e]; exact ha))]; exact h.1 b hb, by rw [flS_cell (Ne.symm h6)]; exact h.2.1, by rw [flS_cell (Ne.symm h6)]; exact h.2.2.1, by rw [flS_cell (Ne.symm h6)]; exact h.2.2.2⟩
theorem RowT_fr {σ τ : Sg} {t : Nat} {N : Tn} (h : RowT σ t N) (e : ∀ i, i ≤ 6 → τ (t + i) = σ (t + i)) : RowT τ t N := by
  refine ⟨?_, ?_, ?_, ?_, ?_, ?_⟩
  · intro i hi; rw [show τ t = σ t from e 0 (by omega)]; exact h.1 i hi
  · intro i hi; rw [e 2 (by omega)]; exact h.2.1 i hi
  · intro i hi; rw [e 3 (by omega)]; exact h.2.2.1 i hi
  · intro i hi; rw [e 4 (by omega)]; exact h.2.2.2.1 i hi
  · intro i hi; rw [e 5 (by omega)]; exact h.2.2.2.2.1 i hi
  · intro i hi; rw [e 6 (by omega)]; exact h.2.2.2.2.2 i hi
/-- the town now -/
def InvN (σ : Sg) (N : Tn) : Prop := RowT σ 7 N ∧ RowM σ 67 0 N ∧ WFN N
/-- the images -/
def InvI (σ : Sg) : Prop := ∀ i, i < 3 → (σ 43 i = 0 ∨ σ 43 i = 1) ∧ σ 71 i = σ 43 i ∧ (σ 43 i = 1 → ∃ N : Tn, RowT σ (22 + 7 * i) N ∧ RowM σ 70 (181 * i) N ∧ WFN N)
/-- the tape and the last fault -/
def InvP (σ : Sg) : Prop := ∃ n : Nat, n ≤ 700 ∧ σ 0 1 = (n : Int) ∧ σ 66 7 = (n : Int) ∧ (∀ j, j < n → σ 6 j = σ 72 j ∧ 0 ≤ σ 6 j ∧ σ 6 j ≤ 255) ∧ σ 0 2 = σ 66 15 ∧ σ 0 3 = σ 66 16
/-- the trays -/
def InvY (σ : Sg) : Prop := ∀ i, i < 4 → σ (45 + 2 * i) 0 = σ 77 i ∧ σ (45 + 2 * i) 1 = σ 78 i ∧ (-1 ≤ σ 77 i ∧ σ 77 i ≤ 3) ∧ (0 ≤ σ 78 i ∧ σ 78 i ≤ 30) ∧ ∀ j, j < 30 → σ (46 + 2 * i) j = σ 79 (30 * i + j)
/-- the table of the ways: sums of places, by the class's constructor -/
def wayN : Nat → Nat → Nat
  | _, 0 => 1
  | 0, _ + 1 => 0
  | k + 1, n + 1 => wayN k (n + 1) + wayN (k + 1) n
def InvR (σ0 σ : Sg) : Prop := σ 62 = σ0 62
def Inv (ω : Nat → Int) (σ : Sg) : Prop := (∃ N, InvN σ N) ∧ InvI σ ∧ InvP σ ∧ InvY σ ∧ σ 62 = ω
theorem InvN_fr {σ τ : Sg} {N : Tn} (h : InvN σ N) (f : Fr σ τ) : InvN τ N := by
  refine ⟨RowT_fr h.1 ?_, RowM_cell h.2.1 (f.1 67 (by decide)), h.2.2⟩
  intro i hi
  refine f.1 _ ?_
  exact (by decide : ∀ q : Fin 7, 7 + q.val ∉ scr) ⟨i, by omega⟩
theorem InvI_fr {σ τ : Sg} (h : InvI σ) (f : Fr σ τ) : InvI τ := by
  intro i hi
  have := h i hi
  rw [f.1 43 (by decide), f.1 71 (by decide)]
  refine ⟨this.1, this.2.1, ?_⟩
  intro e
  obtain ⟨N, h1, h2, h3⟩ := this.2.2 e
  refine ⟨N, RowT_fr h1 ?_, RowM_cell h2 (f.1 70 (by decide)), h3⟩
  intro k hk
  refine f.1 _ ?_
  exact (by decide : ∀ q : Fin 3, ∀ z : Fin 7, 22 + 7 * q.val + z.val ∉ scr) ⟨i, hi⟩ ⟨k, by omega⟩
theorem InvP_fr {σ τ : Sg} (h : InvP σ) (f : Fr σ τ) : InvP τ := by
  obtain ⟨n, h1, h2, h3, h4, h5, h6⟩ := h
  refine ⟨n, h1, ?_, ?_, ?_, ?_, ?_⟩
  · rw [f.1 0 (by decide)]; exact h2
  · rw [f.2.1]; exact h3
  · rw [f.1 6 (by decide), f.1 72 (by decide)]; exact h4
  · rw [f.1 0 (by decide), f.2.2.1]; exact h5
  · rw [f.1 0 (by decide), f.2.2.2]; exact h6
theorem InvY_fr {σ τ : Sg} (h : InvY σ) (f : Fr σ τ) : InvY τ := by
  intro i hi
  rw [f.1 (45 + 2 * i) ((by decide : ∀ q : Fin 4, 45 + 2 * q.val ∉ scr) ⟨i, hi⟩), f.1 (46 + 2 * i) ((by decide : ∀ q : Fin 4, 46 + 2 * q.val ∉ scr) ⟨i, hi⟩), f.1 77 (by decide), f.1 78 (by decide), f.1 79 (by decide)]
  exact h i hi
theorem Inv_fr {ω : Nat → Int} {σ τ : Sg} (h : Inv ω σ) (f : Fr σ τ) : Inv ω τ := by
  obtain ⟨⟨N, hN⟩, h2, h3, h4, h5⟩ := h
  exact ⟨⟨N, InvN_fr hN f⟩, InvI_fr h2 f, InvP_fr h3 f, InvY_fr h4 f, (f.1 62 (by decide)).trans h5⟩
/-! THE JOINT CALLS: the class from σ, then the reference from where the class (and the law's out) left it -/
def ag80 (σ τ : Sg) : Prop := ∀ a, a ≠ 88 → τ a = σ a
theorem ag80_fr {σ τ : Sg} (h : ag80 σ τ) : Fr σ τ := ⟨fun a ha => h a (fun e => ha (by rw [e]; decide)), by rw [h 66 (by decide)], by rw [h 66 (by decide)], by rw [h 66 (by decide)]⟩
/-- a call with a result that may throw; cd: the law's code of each exception -/
def Jt (ω : Nat → Int) (y z : Nat) (As : List Vv) (f : Int → Vv) (cd : Nat → Int) (σ : Sg) : Prop :=
  (∃ v σ1, Ct 40 y (rV 19 0 :: As) σ (.inl [f v]) σ1 ∧ ∀ τ, ag80 σ1 τ → ∃ σ2, Ct 40 z (rV 20 66 :: As) τ (.inl [f v]) σ2 ∧ σ2 66 5 = 0 ∧ Inv ω σ2) ∨
  (∃ E σ1, cd E ≠ 0 ∧ Ct 40 y (rV 19 0 :: As) σ (.inr E) σ1 ∧ ∀ τ, ag80 σ1 τ → ∃ v σ2, Ct 40 z (rV 20 66 :: As) τ (.inl [f v]) σ2 ∧ σ2 66 5 = cd E ∧ Inv ω σ2)
/-- a call that can't throw -/
def Jn (ω : Nat → Int) (y z : Nat) (As : List Vv) (f : Int → Vv) (σ : Sg) : Prop :=
  ∃ v σ1, Ct 40 y (rV 19 0 :: As) σ (.inl [f v]) σ1 ∧ ∃ σ2, Ct 40 z (rV 20 66 :: As) σ1 (.inl [f v]) σ2 ∧ Inv ω σ2
/-- needPerson -/
theorem ctX10_needPerson {d : Nat} {x : Int} {N : Tn} (hd : 1 ≤ d) {σ : Sg} (hR : RowT σ 7 N) (h : 0 ≤ x ∧ x < N 2) : Ct d MX10_needPerson [rV 19 0, iV x] σ (.inl []) σ := by
  refine (eX10_needPerson (d := 0) ?_).mono hd
  intro X Xr Xt hC hr
  refine bX10_needPerson_0 hC ?_
  rw [if_neg (by omega), hR.1 2 (by omega), if_pos h.2]
  exact hr
theorem ctX10_needPerson_no {d : Nat} {x : Int} {N : Tn} (hd : 1 ≤ d) {σ : Sg} (hR : RowT σ 7 N) (h : ¬ (0 ≤ x ∧ x < N 2)) : Ct d MX10_needPerson [rV 19 0, iV x] σ (.inr 1) σ := by
  refine (eX10_needPerson (d := 0) ?_).mono hd
  intro X Xr Xt hC hr
  refine bX10_needPerson_0 hC ?_
  by_cases h0 : x < 0
  · rw [if_pos h0]; exact hr
  · rw [if_neg h0, hR.1 2 (by omega), if_neg (by omega)]; exact hr
