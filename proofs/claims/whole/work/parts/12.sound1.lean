/-! THE WORLD that a memory σ tells, in the machine -/
abbrev KT : Type := va_G × (Nat → ClassId) × (Nat → Nat) × Value
def cv (K : KT) (v : Vv) : Value := match v.1 with
  | 0 => .int (Int32.ofInt v.2.2)
  | 1 => .long (Int64.ofInt v.2.2)
  | 33 => K.2.2.2
  | _ => .ref (K.2.2.1 v.2.1)
theorem cv_i (K : KT) (z : Int) : cv K (iV z) = .int (Int32.ofInt z) := rfl
theorem cv_l (K : KT) (z : Int) : cv K (lV z) = .long (Int64.ofInt z) := rfl
theorem cv_r (K : KT) {t : Nat} (a : Nat) (h : 10 ≤ t) (h2 : t ≠ 33) : cv K (rV t a) = .ref (K.2.2.1 a) := by
  unfold cv
  split <;> simp_all
def flds (K : KT) (σ : Sg) (ci a : Nat) : List Value := (List.range (cTb ci).2.2).map (fun k => cv K (fval ci k σ a))
def cellE (K : KT) (σ : Sg) (a : Nat) : va_E :=
  if TY a < 1000 then .inr (TY a - 10, flds K σ (TY a - 10) a)
  else if TY a / 1000000 = 2 then .inl (K.2.1 2, TY a % 1000000, .inr (.inl (fun j => Int64.ofInt (σ a j))))
  else if TY a / 1000000 < 4 then .inl (K.2.1 (TY a / 1000000), TY a % 1000000, .inl (fun j => Int32.ofInt (σ a j)))
  else .inl (K.2.1 (TY a / 1000000), TY a % 1000000, .inr (.inr (.inr (.inr (fun j => some (K.2.2.1 (a + 1 + strd (TY a / 1000000) * j)))))))
/-- how many cells: the law's own row aside or with it -/
def nW (K : KT) : Nat := if K.2.2.1 9998 = 0 then 88 else 89
theorem nW_ge (K : KT) : 88 ≤ nW K := by unfold nW; split <;> omega
theorem nW_le (K : KT) : nW K ≤ 89 := by unfold nW; split <;> omega
def WS (K : KT) (σ : Sg) : va_W := (List.range (nW K)).map (fun a => (K.2.2.1 a, cellE K σ a))
abbrev tysK (K : KT) : List (ClassId × FieldType) := [(K.2.1 1, .int), (K.2.1 2, .long), (K.2.1 3, .boolean), (K.2.1 4, .object "PrimeCoins$Town"), (K.2.1 5, .object "PrimeCoins$Tray")]
def AA (K : KT) (sz : Nat) : Nat → Prop := fun q => (∃ a, a < nW K ∧ q = K.2.2.1 a) ∨ sz ≤ q
theorem WS_getN (K : KT) (σ : Sg) {a : Nat} (h : a < nW K) : (WS K σ)[a]? = some (K.2.2.1 a, cellE K σ a) := by
  unfold WS
  rw [List.getElem?_map, List.getElem?_range h]
  rfl
theorem WS_get (K : KT) (σ : Sg) {a : Nat} (h : a < 88) : (WS K σ)[a]? = some (K.2.2.1 a, cellE K σ a) := WS_getN K σ (Nat.lt_of_lt_of_le h (nW_ge K))
theorem WS_inv {K : KT} {σ : Sg} {k : Nat} {q : Nat × va_E} (h : (WS K σ)[k]? = some q) : k < nW K ∧ q = (K.2.2.1 k, cellE K σ k) := by
  have hl : k < (WS K σ).length := (List.getElem?_eq_some_iff.mp h).1
  have h81 : k < nW K := by simpa [WS] using hl
  exact ⟨h81, Option.some.inj (h.symm.trans (WS_getN K σ h81))⟩
theorem cell_obj (K : KT) (σ : Sg) {a ci : Nat} (h : TY a = 10 + ci) (hc : ci < 11) : cellE K σ a = .inr (ci, flds K σ ci a) := by
  unfold cellE
  rw [if_pos (by omega), h, Nat.add_sub_cancel_left]
theorem cell_int (K : KT) (σ : Sg) {a : Nat} (h : TY a / 1000000 = 1) : cellE K σ a = .inl (K.2.1 1, TY a % 1000000, .inl (fun j => Int32.ofInt (σ a j))) := by
  unfold cellE
  rw [if_neg (by omega), if_neg (by omega), if_pos (by omega), h]
theorem cell_bool (K : KT) (σ : Sg) {a : Nat} (h : TY a / 1000000 = 3) : cellE K σ a = .inl (K.2.1 3, TY a % 1000000, .inl (fun j => Int32.ofInt (σ a j))) := by
  unfold cellE
  rw [if_neg (by omega), if_neg (by omega), if_pos (by omega), h]
theorem cell_long (K : KT) (σ : Sg) {a : Nat} (h : TY a / 1000000 = 2) : cellE K σ a = .inl (K.2.1 2, TY a % 1000000, .inr (.inl (fun j => Int64.ofInt (σ a j)))) := by
  unfold cellE
  rw [if_neg (by omega), if_pos h]
theorem cell_refs (K : KT) (σ : Sg) {a kd : Nat} (h : TY a / 1000000 = kd) (h4 : 4 ≤ kd) : cellE K σ a = .inl (K.2.1 kd, TY a % 1000000, .inr (.inr (.inr (.inr (fun j => some (K.2.2.1 (a + 1 + strd kd * j))))))) := by
  unfold cellE
  rw [if_neg (by omega), if_neg (by omega), if_neg (by omega), h]
theorem fval_ups (ci k : Nat) (σ : Sg) (a b j : Nat) (z : Int) (h : b ≠ a ∨ k ≠ j) : fval ci k (upS σ a j z) b = fval ci k σ b := by
  unfold fval upS
  have h' : ¬ (b = a ∧ k = j) := fun q => h.elim (fun n => n q.1) (fun n => n q.2)
  split <;> first | rfl | rw [if_neg h']
theorem cell_ups {K : KT} {σ : Sg} {a b j : Nat} {z : Int} (h : b ≠ a) : cellE K (upS σ a j z) b = cellE K σ b := by
  have hf : ∀ i, upS σ a j z b i = σ b i := fun i => by unfold upS; rw [if_neg (fun q => h q.1)]
  have hv : ∀ ci, flds K (upS σ a j z) ci b = flds K σ ci b := fun ci => by
    unfold flds
    exact List.map_congr_left (fun k _ => by rw [fval_ups _ _ _ _ _ _ _ (Or.inl h)])
  unfold cellE
  rw [hv]
  simp only [hf]
theorem WS_set {K : KT} {σ τ : Sg} {a : Nat} {e : va_E} (he : cellE K τ a = e) (ho : ∀ b, b < 89 → b ≠ a → cellE K τ b = cellE K σ b) : (WS K σ).set a (K.2.2.1 a, e) = WS K τ := by
  apply List.ext_getElem?
  intro i
  rw [List.getElem?_set]
  by_cases hi : a = i
  · subst hi
    rw [if_pos rfl]
    by_cases hl : a < nW K
    · rw [WS_getN K τ hl, he, if_pos (by simpa [WS] using hl)]
    · rw [if_neg (by simpa [WS] using hl), eq_comm, List.getElem?_eq_none]
      simpa [WS] using hl
  · rw [if_neg hi]
    by_cases hl : i < nW K
    · rw [WS_getN K σ hl, WS_getN K τ hl, ho i (Nat.lt_of_lt_of_le hl (nW_le K)) (fun q => hi q.symm)]
    · rw [List.getElem?_eq_none (by simpa [WS] using hl), List.getElem?_eq_none (by simpa [WS] using hl)]
theorem flds_set {K : KT} {σ : Sg} {a ci j : Nat} {v : Vv} (hj : j < (cTb ci).2.2) (hv : (fty ci j = 0 ∧ v.1 = 0) ∨ (fty ci j = 1 ∧ v.1 = 1)) : (flds K σ ci a).set j (cv K v) = flds K (upS σ a j v.2.2) ci a := by
  apply List.ext_getElem?
  intro i
  unfold flds
  rw [List.getElem?_set, List.getElem?_map, List.getElem?_map]
  by_cases hi : j = i
  · subst hi
    rw [if_pos rfl, if_pos (by simpa using hj), List.getElem?_range hj]
    simp only [Option.map_some]
    have e : cv K v = cv K (fval ci j (upS σ a j v.2.2) a) := by
      unfold fval upS
      rcases hv with ⟨h1, h2⟩ | ⟨h1, h2⟩
      · rw [h1]; simp only [if_true, and_self]; unfold cv; rw [h2]; rfl
      · rw [h1]; simp only [if_true, and_self]; unfold cv; rw [h2]; rfl
    rw [e]
  · rw [if_neg hi]
    by_cases hl : i < (cTb ci).2.2
    · rw [List.getElem?_range hl]
      simp only [Option.map_some]
      rw [fval_ups _ _ _ _ _ _ _ (Or.inr (fun q => hi q.symm))]
    · rw [List.getElem?_eq_none (by simpa using hl)]
      rfl
theorem WS_put {K : KT} {σ : Sg} {a ci j : Nat} {v : Vv} (ha : TY a = 10 + ci) (hc : ci < 11) (hj : j < (cTb ci).2.2) (hv : (fty ci j = 0 ∧ v.1 = 0) ∨ (fty ci j = 1 ∧ v.1 = 1)) : (WS K σ).set a (K.2.2.1 a, .inr (ci, (flds K σ ci a).set j (cv K v))) = WS K (upS σ a j v.2.2) :=
  WS_set (by rw [cell_obj K _ ha hc, flds_set hj hv]) (fun _ _ hb => cell_ups hb)
theorem WS_ints {K : KT} {σ : Sg} {a j : Nat} {z : Int} (h : TY a / 1000000 = 1) : (WS K σ).set a (K.2.2.1 a, .inl (K.2.1 1, TY a % 1000000, .inl (upd (fun j => Int32.ofInt (σ a j)) j (Int32.ofInt z)))) = WS K (upS σ a j z) :=
  WS_set (by
    rw [cell_int K _ h]
    have e : (fun i => Int32.ofInt (upS σ a j z a i)) = upd (fun i => Int32.ofInt (σ a i)) j (Int32.ofInt z) := by
      funext i
      unfold upS upd
      by_cases hi : i = j
      · rw [if_pos ⟨rfl, hi⟩, if_pos hi]
      · rw [if_neg (fun q => hi q.2), if_neg hi]
    rw [e]) (fun _ _ hb => cell_ups hb)
theorem WS_bools {K : KT} {σ : Sg} {a j : Nat} {z : Int} (h : TY a / 1000000 = 3) : (WS K σ).set a (K.2.2.1 a, .inl (K.2.1 3, TY a % 1000000, .inl (upd (fun j => Int32.ofInt (σ a j)) j (Int32.ofInt z)))) = WS K (upS σ a j z) :=
  WS_set (by
    rw [cell_bool K _ h]
    have e : (fun i => Int32.ofInt (upS σ a j z a i)) = upd (fun i => Int32.ofInt (σ a i)) j (Int32.ofInt z) := by
      funext i
      unfold upS upd
      by_cases hi : i = j
      · rw [if_pos ⟨rfl, hi⟩, if_pos hi]
      · rw [if_neg (fun q => hi q.2), if_neg hi]
    rw [e]) (fun _ _ hb => cell_ups hb)
theorem WS_longs {K : KT} {σ : Sg} {a j : Nat} {z : Int} (h : TY a / 1000000 = 2) : (WS K σ).set a (K.2.2.1 a, .inl (K.2.1 2, TY a % 1000000, .inr (.inl (vp_updL (fun j => Int64.ofInt (σ a j)) j (Int64.ofInt z))))) = WS K (upS σ a j z) :=
  WS_set (by
    rw [cell_long K _ h]
    have e : (fun i => Int64.ofInt (upS σ a j z a i)) = vp_updL (fun i => Int64.ofInt (σ a i)) j (Int64.ofInt z) := by
      funext i
      unfold upS vp_updL
      by_cases hi : i = j
      · rw [if_pos ⟨rfl, hi⟩, if_pos hi]
      · rw [if_neg (fun q => hi q.2), if_neg hi]
    rw [e]) (fun _ _ hb => cell_ups hb)
theorem cell_cps {K : KT} {σ : Sg} {a sp b dp n c : Nat} (h : c ≠ b) : cellE K (cpS σ a sp b dp n) c = cellE K σ c := by
  have hf : ∀ i, cpS σ a sp b dp n c i = σ c i := fun i => by unfold cpS; rw [if_neg (fun q => h q.1)]
  have hv : ∀ ci, flds K (cpS σ a sp b dp n) ci c = flds K σ ci c := fun ci => by
    unfold flds
    refine List.map_congr_left (fun k _ => ?_)
    unfold fval
    split <;> simp only [hf]
  unfold cellE
  rw [hv]
  simp only [hf]
theorem WS_cpi {K : KT} {σ : Sg} {a sp b dp n : Nat} (h : TY b / 1000000 = 1) : (WS K σ).set b (K.2.2.1 b, .inl (K.2.1 1, TY b % 1000000, .inl (va_cpy (fun j => Int32.ofInt (σ a j)) (fun j => Int32.ofInt (σ b j)) sp dp n))) = WS K (cpS σ a sp b dp n) :=
  WS_set (by
    rw [cell_int K _ h]
    have e : (fun i => Int32.ofInt (cpS σ a sp b dp n b i)) = va_cpy (fun j => Int32.ofInt (σ a j)) (fun j => Int32.ofInt (σ b j)) sp dp n := by
      funext i
      unfold cpS va_cpy
      by_cases hi : dp ≤ i ∧ i < dp + n
      · rw [if_pos ⟨rfl, hi⟩, if_pos hi]
      · rw [if_neg (fun q => hi q.2), if_neg hi]
    rw [e]) (fun _ _ hb => cell_cps hb)
theorem WS_cpl {K : KT} {σ : Sg} {a sp b dp n : Nat} (h : TY b / 1000000 = 2) : (WS K σ).set b (K.2.2.1 b, .inl (K.2.1 2, TY b % 1000000, .inr (.inl (va_cpy (fun j => Int64.ofInt (σ a j)) (fun j => Int64.ofInt (σ b j)) sp dp n)))) = WS K (cpS σ a sp b dp n) :=
  WS_set (by
    rw [cell_long K _ h]
    have e : (fun i => Int64.ofInt (cpS σ a sp b dp n b i)) = va_cpy (fun j => Int64.ofInt (σ a j)) (fun j => Int64.ofInt (σ b j)) sp dp n := by
      funext i
      unfold cpS va_cpy
      by_cases hi : dp ≤ i ∧ i < dp + n
      · rw [if_pos ⟨rfl, hi⟩, if_pos hi]
      · rw [if_neg (fun q => hi q.2), if_neg hi]
    rw [e]) (fun _ _ hb => cell_cps hb)
/-! whole numbers and the machine's -/
theorem w32_of (x : Int) : Int32.ofInt (w32 x) = Int32.ofInt x := by
  apply Int32.toInt_inj.mp
  rw [Int32.toInt_ofInt, Int32.toInt_ofInt]
  unfold w32
  simp only [Int.bmod, Int32.size, Int64.size]
  omega
theorem w32_in (x : Int) : in32 (w32 x) := by unfold in32 w32; omega
theorem w64_of (x : Int) : Int64.ofInt (w64 x) = Int64.ofInt x := by
  apply Int64.toInt_inj.mp
  rw [Int64.toInt_ofInt, Int64.toInt_ofInt]
  unfold w64
  simp only [Int.bmod, Int32.size, Int64.size]
  omega
theorem w64_in (x : Int) : in64 (w64 x) := by unfold in64 w64; omega
theorem i32_to {x : Int} (h : in32 x) : (Int32.ofInt x).toInt = x := by
  rw [Int32.toInt_ofInt]
  unfold in32 at h
  simp only [Int.bmod, Int32.size, Int64.size]
  omega
theorem i64_to {x : Int} (h : in64 x) : (Int64.ofInt x).toInt = x := by
  rw [Int64.toInt_ofInt]
  unfold in64 at h
  simp only [Int.bmod, Int32.size, Int64.size]
  omega
theorem i32_back (x : Int32) : Int32.ofInt x.toInt = x := by simp
theorem i64_back (x : Int64) : Int64.ofInt x.toInt = x := by simp
theorem i32_in (x : Int32) : in32 x.toInt := by
  have h1 := Int32.le_toInt x
  have h2 := Int32.toInt_lt x
  unfold in32; omega
theorem i64_in (x : Int64) : in64 x.toInt := by
  have h1 := Int64.le_toInt x
  have h2 := Int64.toInt_lt x
  unfold in64; omega
theorem i32_lt {x y : Int} (hx : in32 x) (hy : in32 y) : Int32.ofInt x < Int32.ofInt y ↔ x < y := by
  rw [Int32.lt_iff_toInt_lt, i32_to hx, i32_to hy]
theorem i32_le {x y : Int} (hx : in32 x) (hy : in32 y) : Int32.ofInt x ≤ Int32.ofInt y ↔ x ≤ y := by
  rw [Int32.le_iff_toInt_le, i32_to hx, i32_to hy]
theorem i32_eq {x y : Int} (hx : in32 x) (hy : in32 y) : Int32.ofInt x = Int32.ofInt y ↔ x = y := by
  rw [← Int32.toInt_inj, i32_to hx, i32_to hy]
theorem i64_lt {x y : Int} (hx : in64 x) (hy : in64 y) : Int64.ofInt x < Int64.ofInt y ↔ x < y := by
  rw [Int64.lt_iff_toInt_lt, i64_to hx, i64_to hy]
theorem i64_eq {x y : Int} (hx : in64 x) (hy : in64 y) : Int64.ofInt x = Int64.ofInt y ↔ x = y := by
  rw [← Int64.toInt_inj, i64_to hx, i64_to hy]
theorem i32_cl {j : Int} (hj : in32 j) : (Int32.ofInt j).toNatClampNeg = j.toNat := by
  show (Int32.ofInt j).toInt.toNat = j.toNat
  rw [i32_to hj]
theorem i32_in' {j : Int} {n : Nat} (hj : in32 j) (h : 0 ≤ j ∧ j < (n : Int)) : vp_in (Int32.ofInt j) n := by
  rw [vp_in_iff, i32_to hj]
  exact h
