/-! THE MEMORY AT THE START -/
def sg0 (cf5 : Nat → Int64) (cf26 : Nat → Int64) (cf52 : Nat → Int64) (cf60 : Nat → Int64) (cf68 : Nat → Int64) (cf45 : Nat → Int32) (mf15 : Nat → Int32) (mf14 : Nat → Int32) (cf13 : Nat → Int64) : Sg := fun a j => match a with
  | 0 => if j = 3 then -1 else 0
  | 1 => if j = 1 then -1 else 0
  | 9 => (cf5 j).toInt
  | 16 => (cf26 j).toInt
  | 24 => (cf52 j).toInt
  | 31 => (cf60 j).toInt
  | 38 => (cf68 j).toInt
  | 45 => if j = 0 then -1 else 0
  | 47 => if j = 0 then -1 else 0
  | 49 => if j = 0 then -1 else 0
  | 51 => if j = 0 then -1 else 0
  | 62 => (cf45 j).toInt
  | 66 => if j = 16 then -1 else 0
  | 67 => (mf15 j).toInt
  | 68 => (mf14 j).toInt
  | 82 => (cf13 j).toInt
  | 77 => -1
  | _ => 0
def N00 : Tn := fun j => if 156 ≤ j then 1 else 0
theorem WFN_0 : WFN N00 := by
  refine ⟨by decide, ?_, ?_, by decide +kernel, fun p c hp hc => (by decide +kernel : ∀ p, p < 5 → ∀ c, c < 8 → N00 2 ≤ p ∨ N00 1 ≤ c → hN N00 p c = 0) p hp c hc, fun k s hk hs => (by decide +kernel : ∀ k, k < 6 → ∀ s, s < 2 → sumN (sN N00 k s) 8 ≤ 3) k hk s hs, fun k s c hk hs hc => (by decide +kernel : ∀ k, k < 6 → ∀ s, s < 2 → ∀ c, c < 8 → N00 3 ≤ k ∨ N00 1 ≤ c → sN N00 k s c = 0) k hk s hs c hc, by decide +kernel, fun p q hp hq => (by decide +kernel : ∀ p, p < 5 → ∀ q, q < 5 → 1 ≤ oN N00 p q ∧ oN N00 p q ≤ 1000000000 ∧ (p = q ∨ N00 2 ≤ p ∨ N00 2 ≤ q → oN N00 p q = 1)) p hp q hq, by decide +kernel⟩
  · intro c h; exact absurd h (Nat.not_lt_zero c)
  · intro c e h; exact absurd h (Nat.not_lt_zero c)
theorem Inv_0 {cf5 : Nat → Int64} {cf26 : Nat → Int64} {cf52 : Nat → Int64} {cf60 : Nat → Int64} {cf68 : Nat → Int64} {cf45 : Nat → Int32} {mf15 : Nat → Int32} {mf14 : Nat → Int32} {cf13 : Nat → Int64} (h9 : ∀ j, j < 25 → cf5 j = 1) (h67 : ∀ j, j < 181 → mf15 j = mf14 j) (h68 : ∀ j, j < 181 → mf14 j = if 156 ≤ j then 1 else 0) : Inv (fun j => (cf45 j).toInt) (sg0 cf5 cf26 cf52 cf60 cf68 cf45 mf15 mf14 cf13) := by
  refine ⟨⟨N00, ⟨?_, ?_, ?_, ?_, ?_, ?_⟩, ?_, WFN_0⟩, ?_, ⟨0, by decide, rfl, rfl, fun j hj => absurd hj (Nat.not_lt_zero j), rfl, rfl⟩, ?_, rfl⟩
  · intro i hi
    show (0 : Int) = ((N00 (i) : Nat) : Int)
    unfold N00
    rw [if_neg (by omega)]
    rfl
  · intro i hi
    show (cf5 i).toInt = ((N00 (156 + i) : Nat) : Int)
    unfold N00
    rw [h9 i hi, if_pos (by omega)]
    rfl
  · intro i hi
    show (0 : Int) = ((N00 (4 + i) : Nat) : Int)
    unfold N00
    rw [if_neg (by omega)]
    rfl
  · intro i hi
    show (0 : Int) = ((N00 (12 + i) : Nat) : Int)
    unfold N00
    rw [if_neg (by omega)]
    rfl
  · intro i hi
    show (0 : Int) = ((N00 (52 + i) : Nat) : Int)
    unfold N00
    rw [if_neg (by omega)]
    rfl
  · intro i hi
    show (0 : Int) = ((N00 (148 + i) : Nat) : Int)
    unfold N00
    rw [if_neg (by omega)]
    rfl
  · intro j hj
    show (mf15 (0 + j)).toInt = ((N00 j : Nat) : Int)
    unfold N00
    rw [Nat.zero_add, h67 j hj, h68 j hj]
    by_cases q : 156 ≤ j
    · rw [if_pos q, if_pos q]; rfl
    · rw [if_neg q, if_neg q]; rfl
  · intro i hi
    exact ⟨Or.inl rfl, rfl, fun q => absurd (show (0 : Int) = 1 from q) (by decide)⟩
  · intro i hi
    match i, hi with
    | 0, _ => exact ⟨rfl, rfl, (by decide : (-1 : Int) ≤ -1 ∧ (-1 : Int) ≤ 3), (by decide : (0 : Int) ≤ 0 ∧ (0 : Int) ≤ 30), fun j _ => rfl⟩
    | 1, _ => exact ⟨rfl, rfl, (by decide : (-1 : Int) ≤ -1 ∧ (-1 : Int) ≤ 3), (by decide : (0 : Int) ≤ 0 ∧ (0 : Int) ≤ 30), fun j _ => rfl⟩
    | 2, _ => exact ⟨rfl, rfl, (by decide : (-1 : Int) ≤ -1 ∧ (-1 : Int) ≤ 3), (by decide : (0 : Int) ≤ 0 ∧ (0 : Int) ≤ 30), fun j _ => rfl⟩
    | 3, _ => exact ⟨rfl, rfl, (by decide : (-1 : Int) ≤ -1 ∧ (-1 : Int) ≤ 3), (by decide : (0 : Int) ≤ 0 ∧ (0 : Int) ≤ 30), fun j _ => rfl⟩
    | i + 4, hi => omega
theorem wyT_0 {cf45 : Nat → Int32} (h62 : ∀ r m, r ≤ 9 → m ≤ 8 → cf45 (9 * r + m) = Int32.ofInt ((wyN r m : Nat) : Int)) : wyT (fun j => (cf45 j).toInt) := by
  intro r m hr hm
  show (cf45 (9 * r + m)).toInt = _
  rw [h62 r m hr hm]
  have hb : wyN r m ≤ 24310 := (by decide +kernel : ∀ r, r < 10 → ∀ m, m < 9 → wyN r m ≤ 24310) r (by omega) m (by omega)
  exact Int32.toInt_ofInt_of_le (by omega) (by omega)
theorem sg0_z {cf5 : Nat → Int64} {cf26 : Nat → Int64} {cf52 : Nat → Int64} {cf60 : Nat → Int64} {cf68 : Nat → Int64} {cf45 : Nat → Int32} {mf15 : Nat → Int32} {mf14 : Nat → Int32} {cf13 : Nat → Int64} {a j : Nat} (h : a ∉ [0, 1, 9, 16, 24, 31, 38, 45, 47, 49, 51, 62, 66, 67, 68, 82, 77]) : sg0 cf5 cf26 cf52 cf60 cf68 cf45 mf15 mf14 cf13 a j = 0 := by
  unfold sg0
  split <;> first | rfl | exact absurd (by decide) h
theorem okS_0 {cf5 : Nat → Int64} {cf26 : Nat → Int64} {cf52 : Nat → Int64} {cf60 : Nat → Int64} {cf68 : Nat → Int64} {cf45 : Nat → Int32} {mf15 : Nat → Int32} {mf14 : Nat → Int32} {cf13 : Nat → Int64} : okS (sg0 cf5 cf26 cf52 cf60 cf68 cf45 mf15 mf14 cf13) := by
  have i32 : ∀ x : Int32, in32 x.toInt := fun x => ⟨Int32.le_toInt _, Int32.toInt_lt _⟩
  have i64 : ∀ x : Int64, in64 x.toInt := fun x => ⟨Int64.le_toInt _, Int64.toInt_lt _⟩
  have z : ∀ (a j : Nat) (v : Int), v = 0 ∨ v = -1 → if skd a j = 1 then in64 v else in32 v := by
    intro a j v hv
    rcases hv with rfl | rfl <;> split <;> constructor <;> decide
  have zi : ∀ (j k : Nat), (if j = k then (-1 : Int) else 0) = 0 ∨ (if j = k then (-1 : Int) else 0) = -1 := fun j k => by
    by_cases q : j = k
    · rw [if_pos q]; exact Or.inr rfl
    · rw [if_neg q]; exact Or.inl rfl
  intro a j ha
  by_cases q0 : a = 0
  · subst q0
    exact z 0 j (if j = 3 then -1 else 0) (zi j 3)
  by_cases q1 : a = 1
  · subst q1
    exact z 1 j (if j = 1 then -1 else 0) (zi j 1)
  by_cases q9 : a = 9
  · subst q9
    have e : skd 9 j = 1 := rfl
    rw [e, if_pos rfl]
    exact i64 _
  by_cases q16 : a = 16
  · subst q16
    have e : skd 16 j = 1 := rfl
    rw [e, if_pos rfl]
    exact i64 _
  by_cases q24 : a = 24
  · subst q24
    have e : skd 24 j = 1 := rfl
    rw [e, if_pos rfl]
    exact i64 _
  by_cases q31 : a = 31
  · subst q31
    have e : skd 31 j = 1 := rfl
    rw [e, if_pos rfl]
    exact i64 _
  by_cases q38 : a = 38
  · subst q38
    have e : skd 38 j = 1 := rfl
    rw [e, if_pos rfl]
    exact i64 _
  by_cases q45 : a = 45
  · subst q45
    exact z 45 j (if j = 0 then -1 else 0) (zi j 0)
  by_cases q47 : a = 47
  · subst q47
    exact z 47 j (if j = 0 then -1 else 0) (zi j 0)
  by_cases q49 : a = 49
  · subst q49
    exact z 49 j (if j = 0 then -1 else 0) (zi j 0)
  by_cases q51 : a = 51
  · subst q51
    exact z 51 j (if j = 0 then -1 else 0) (zi j 0)
  by_cases q62 : a = 62
  · subst q62
    have e : skd 62 j = 0 := rfl
    rw [e, if_neg (by decide)]
    exact i32 _
  by_cases q66 : a = 66
  · subst q66
    exact z 66 j (if j = 16 then -1 else 0) (zi j 16)
  by_cases q67 : a = 67
  · subst q67
    have e : skd 67 j = 0 := rfl
    rw [e, if_neg (by decide)]
    exact i32 _
  by_cases q68 : a = 68
  · subst q68
    have e : skd 68 j = 0 := rfl
    rw [e, if_neg (by decide)]
    exact i32 _
  by_cases q82 : a = 82
  · subst q82
    have e : skd 82 j = 1 := rfl
    rw [e, if_pos rfl]
    exact i64 _
  by_cases q77 : a = 77
  · subst q77
    exact z 77 j (-1) (Or.inr rfl)
  rw [sg0_z (by simp [*])]
  exact z a j 0 (Or.inl rfl)
section VAT
variable {D : va_G} {cl : List vw_C} {H : Heap} {a n : Nat} {cA : ClassId}
theorem arrV_eq {f g : Nat → Value} (e : ∀ j, j < n → f j = g j) : arrV cA n f = arrV cA n g := by
  have : (fun j : Fin n => f j.val) = fun j : Fin n => g j.val := funext fun j => e j.val j.isLt
  unfold arrV
  rw [this]
theorem va_atI {f g : Nat → Int32} (h : va_at D cl (a, .inl (cA, n, .inl f)) H) (e : ∀ j, j < n → f j = g j) : va_at D cl (a, .inl (cA, n, .inl g)) H := by
  have h : H[a]? = some (arrV cA n (fun j => .int (f j))) := h
  rw [arrV_eq (g := fun j => .int (g j)) (fun j hj => by rw [e j hj])] at h
  exact h
theorem va_atJ {f g : Nat → Int64} (h : va_at D cl (a, .inl (cA, n, .inr (.inl f))) H) (e : ∀ j, j < n → f j = g j) : va_at D cl (a, .inl (cA, n, .inr (.inl g))) H := by
  have h : H[a]? = some (arrV cA n (fun j => .long (f j))) := h
  rw [arrV_eq (g := fun j => .long (g j)) (fun j hj => by rw [e j hj])] at h
  exact h
theorem va_atQ {f g : Nat → Option Nat} (h : va_at D cl (a, .inl (cA, n, .inr (.inr (.inr (.inr f))))) H) (e : ∀ j, j < n → f j = g j) : va_at D cl (a, .inl (cA, n, .inr (.inr (.inr (.inr g))))) H := by
  have h : H[a]? = some (arrV cA n (fun j => va_rf (f j))) := h
  rw [arrV_eq (g := fun j => va_rf (g j)) (fun j hj => by rw [e j hj])] at h
  exact h
end VAT
def adK (AL : List Nat) (b : Nat) (ad : Nat → Nat) : Nat → Nat := fun i => if i < 89 then AL.getD i 0 else if i = 9998 then 1 else if i = 4000 then b else ad i
def psL : List Nat := [0, 20, 28, 30, 31, 32, 1, 2, 3, 4, 5, 6, 7, 8, 21, 22, 23, 24, 25, 26, 27, 16, 45, 46, 47, 48, 49, 50, 51, 52, 53, 54, 55, 56, 57, 58, 59, 60, 61, 62, 63, 64, 65, 17, 18, 66, 67, 68, 69, 70, 71, 72, 73, 19, 33, 34, 35, 36, 37, 38, 39, 40, 41, 42, 43, 44, 74, 87, 86, 75, 76, 77, 78, 79, 80, 81, 82, 83, 84, 85, 9, 10, 11, 12, 13, 14, 15, 29, 88]
theorem ps_inj : ∀ i, i < 89 → ∀ j, j < 89 → psL.getD i 0 = psL.getD j 0 → i = j := by decide +kernel
