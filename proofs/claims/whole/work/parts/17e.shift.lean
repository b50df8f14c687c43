/-! an instruction read out of a piece of a long code -/
def Pce (code seg : ByteArray) (off : Nat) : Prop := ∀ j (h : j < seg.size), ∃ h2 : off + j < code.size, code[off + j] = seg[j]
def Sm (code seg : ByteArray) (off : Nat) {α : Type} (f g : Decoder α) : Prop := ∀ (p : Nat) (a : α) (q : Nat), (ReaderT.run f seg).run p = .ok (a, q) → (ReaderT.run g code).run (off + p) = .ok (a, off + q)
theorem sm_pure {code seg : ByteArray} {off : Nat} {α : Type} (a : α) : Sm code seg off (pure a) (pure a) := by
  intro p b q h
  cases h
  rfl
theorem sm_bind {code seg : ByteArray} {off : Nat} {α β : Type} {f g : Decoder α} {f2 g2 : α → Decoder β} (h : Sm code seg off f g) (h2 : ∀ a, Sm code seg off (f2 a) (g2 a)) : Sm code seg off (f >>= f2) (g >>= g2) := by
  intro p b q hr
  have e1 : (ReaderT.run (f >>= f2) seg).run p = ((ReaderT.run f seg).run p >>= fun x => (ReaderT.run (f2 x.1) seg).run x.2) := rfl
  have e2 : (ReaderT.run (g >>= g2) code).run (off + p) = ((ReaderT.run g code).run (off + p) >>= fun x => (ReaderT.run (g2 x.1) code).run x.2) := rfl
  rw [e1] at hr
  rw [e2]
  cases h3 : (ReaderT.run f seg).run p with
  | error e => rw [h3] at hr; cases hr
  | ok x =>
    rw [h3] at hr
    rw [h p x.1 x.2 h3]
    exact h2 x.1 x.2 b q hr
theorem sm_u1 {code seg : ByteArray} {off : Nat} (H : Pce code seg off) : Sm code seg off Reader.u1 Reader.u1 := by
  intro p b q h
  have e : ∀ (c : ByteArray) (p : Nat), (ReaderT.run (Reader.u1 : Decoder Nat) c).run p = if h : p < c.size then .ok (c[p].toNat, p + 1) else .error (HasTruncated.truncated p) := by
    intro c p
    by_cases h : p < c.size
    · rw [dif_pos h]
      show (ReaderT.run (if h : p < c.size then (do set (p + 1); pure c[p].toNat : Decoder Nat) else throw (HasTruncated.truncated p)) c).run p = _
      rw [dif_pos h]
      rfl
    · rw [dif_neg h]
      show (ReaderT.run (if h : p < c.size then (do set (p + 1); pure c[p].toNat : Decoder Nat) else throw (HasTruncated.truncated p)) c).run p = _
      rw [dif_neg h]
      rfl
  rw [e] at h ⊢
  by_cases hp : p < seg.size
  · rw [dif_pos hp] at h
    cases h
    obtain ⟨h2, h3⟩ := H p hp
    rw [dif_pos h2, h3]
    rfl
  · rw [dif_neg hp] at h
    cases h
theorem sm_map {code seg : ByteArray} {off : Nat} {α β : Type} {f g : Decoder α} (k : α → β) (h : Sm code seg off f g) : Sm code seg off (k <$> f) (k <$> g) := by
  intro p b q hr
  have e1 : (ReaderT.run (k <$> f) seg).run p = ((ReaderT.run f seg).run p >>= fun x => .ok (k x.1, x.2)) := rfl
  have e2 : (ReaderT.run (k <$> g) code).run (off + p) = ((ReaderT.run g code).run (off + p) >>= fun x => .ok (k x.1, x.2)) := rfl
  rw [e1] at hr
  rw [e2]
  cases h3 : (ReaderT.run f seg).run p with
  | error e => rw [h3] at hr; cases hr
  | ok x =>
    rw [h3] at hr
    rw [h p x.1 x.2 h3]
    cases hr
    rfl
theorem sm_u2 {code seg : ByteArray} {off : Nat} (H : Pce code seg off) : Sm code seg off Reader.u2 Reader.u2 := sm_bind (sm_u1 H) (fun _ => sm_bind (sm_u1 H) (fun _ => sm_pure _))
theorem sm_s1 {code seg : ByteArray} {off : Nat} (H : Pce code seg off) : Sm code seg off Reader.s1 Reader.s1 := sm_map _ (sm_u1 H)
theorem sm_s2 {code seg : ByteArray} {off : Nat} (H : Pce code seg off) : Sm code seg off Reader.s2 Reader.s2 := sm_map _ (sm_u2 H)
theorem run_bind {α β : Type} {f : Decoder α} {F : α → Decoder β} {c : ByteArray} {p q : Nat} {a : α} (h : (ReaderT.run f c).run p = .ok (a, q)) : (ReaderT.run (f >>= F) c).run p = (ReaderT.run (F a) c).run q := by
  show ((ReaderT.run f c).run p >>= fun x => (ReaderT.run (F x.1) c).run x.2) = _
  rw [h]
  rfl
def okop (b : Nat) : Prop := b = 3 ∨ b = 4 ∨ b = 5 ∨ b = 6 ∨ b = 7 ∨ b = 8 ∨ b = 16 ∨ b = 20 ∨ b = 21 ∨ b = 22 ∨ b = 42 ∨ b = 43 ∨ b = 44 ∨ b = 45 ∨ b = 46 ∨ b = 47 ∨ b = 54 ∨ b = 55 ∨ b = 96 ∨ b = 100 ∨ b = 121 ∨ b = 126 ∨ b = 127 ∨ b = 129 ∨ b = 133 ∨ b = 148 ∨ b = 153 ∨ b = 154 ∨ b = 159 ∨ b = 160 ∨ b = 167 ∨ b = 172 ∨ b = 182 ∨ b = 184
set_option maxHeartbeats 4000000 in
theorem sm_op {code seg : ByteArray} {off : Nat} (H : Pce code seg off) (p1 p2 : Nat) {p b : Nat} (hb : (ReaderT.run (Reader.u1 : Decoder Nat) seg).run p = .ok (b, p + 1)) (hop : okop b) {i : Instr} {q : Nat} (h : (ReaderT.run (Decoder.instr p1) seg).run p = .ok (i, q)) : (ReaderT.run (Decoder.instr p2) code).run (off + p) = .ok (i, off + q) := by
  have hb2 := sm_u1 H p b (p + 1) hb
  unfold Decoder.instr at h ⊢
  rw [run_bind hb] at h
  rw [run_bind hb2]
  unfold okop at hop
  rcases hop with rfl | rfl | rfl | rfl | rfl | rfl | rfl | rfl | rfl | rfl | rfl | rfl | rfl | rfl | rfl | rfl | rfl | rfl | rfl | rfl | rfl | rfl | rfl | rfl | rfl | rfl | rfl | rfl | rfl | rfl | rfl | rfl | rfl | rfl
  · exact sm_pure _ (p + 1) i q h
  · exact sm_pure _ (p + 1) i q h
  · exact sm_pure _ (p + 1) i q h
  · exact sm_pure _ (p + 1) i q h
  · exact sm_pure _ (p + 1) i q h
  · exact sm_pure _ (p + 1) i q h
  · exact sm_bind (sm_s1 H) (fun _ => sm_pure _) (p + 1) i q h
  · exact sm_bind (sm_u2 H) (fun _ => sm_pure _) (p + 1) i q h
  · exact sm_bind (sm_u1 H) (fun _ => sm_pure _) (p + 1) i q h
  · exact sm_bind (sm_u1 H) (fun _ => sm_pure _) (p + 1) i q h
  · exact sm_pure _ (p + 1) i q h
  · exact sm_pure _ (p + 1) i q h
  · exact sm_pure _ (p + 1) i q h
  · exact sm_pure _ (p + 1) i q h
  · exact sm_pure _ (p + 1) i q h
  · exact sm_pure _ (p + 1) i q h
  · exact sm_bind (sm_u1 H) (fun _ => sm_pure _) (p + 1) i q h
  · exact sm_bind (sm_u1 H) (fun _ => sm_pure _) (p + 1) i q h
  · exact sm_pure _ (p + 1) i q h
  · exact sm_pure _ (p + 1) i q h
  · exact sm_pure _ (p + 1) i q h
  · exact sm_pure _ (p + 1) i q h
  · exact sm_pure _ (p + 1) i q h
  · exact sm_pure _ (p + 1) i q h
  · exact sm_pure _ (p + 1) i q h
  · exact sm_pure _ (p + 1) i q h
  · exact sm_bind (sm_s2 H) (fun _ => sm_pure _) (p + 1) i q h
  · exact sm_bind (sm_s2 H) (fun _ => sm_pure _) (p + 1) i q h
  · exact sm_bind (sm_s2 H) (fun _ => sm_pure _) (p + 1) i q h
  · exact sm_bind (sm_s2 H) (fun _ => sm_pure _) (p + 1) i q h
  · exact sm_bind (sm_s2 H) (fun _ => sm_pure _) (p + 1) i q h
  · exact sm_pure _ (p + 1) i q h
  · exact sm_bind (sm_u2 H) (fun _ => sm_pure _) (p + 1) i q h
  · exact sm_bind (sm_u2 H) (fun _ => sm_pure _) (p + 1) i q h
def opB (b : Nat) : Bool := (b == 3) || ((b == 4) || ((b == 5) || ((b == 6) || ((b == 7) || ((b == 8) || ((b == 16) || ((b == 20) || ((b == 21) || ((b == 22) || ((b == 42) || ((b == 43) || ((b == 44) || ((b == 45) || ((b == 46) || ((b == 47) || ((b == 54) || ((b == 55) || ((b == 96) || ((b == 100) || ((b == 121) || ((b == 126) || ((b == 127) || ((b == 129) || ((b == 133) || ((b == 148) || ((b == 153) || ((b == 154) || ((b == 159) || ((b == 160) || ((b == 167) || ((b == 172) || ((b == 182) || (b == 184)))))))))))))))))))))))))))))))))
theorem opB_ok {b : Nat} (h : opB b = true) : okop b := by
  unfold opB at h
  unfold okop
  simp only [Bool.or_eq_true, beq_iff_eq] at h
  exact h
/-- may the instruction at p of a piece be read there -/
def chk (seg : ByteArray) (p : Nat) : Bool := match (ReaderT.run (Reader.u1 : Decoder Nat) seg).run p with
  | .ok (b, q) => opB b && (q == p + 1)
  | .error _ => false
theorem dec_in {code seg : ByteArray} {off p pc n : Nat} {i : Instr} (H : Pce code seg off) (hpc : pc = off + p) (h1 : chk seg p = true) (h : decode seg p = .ok (i, n)) : decode code pc = .ok (i, n) := by
  subst hpc
  unfold chk at h1
  cases hu : (ReaderT.run (Reader.u1 : Decoder Nat) seg).run p with
  | error e => rw [hu] at h1; cases h1
  | ok x =>
    rw [hu] at h1
    obtain ⟨b, q0⟩ := x
    have h1 : (opB b && (q0 == p + 1)) = true := h1
    simp only [Bool.and_eq_true, beq_iff_eq] at h1
    obtain ⟨g1, rfl⟩ := h1
    unfold decode Reader.runAt at h ⊢
    cases hi : (ReaderT.run (Decoder.instr p) seg).run p with
    | error e => rw [hi] at h; cases h
    | ok y =>
      rw [hi] at h
      obtain ⟨i2, q2⟩ := y
      rw [sm_op H p (off + p) hu (opB_ok g1) hi]
      have h : (Except.ok (i2, q2 - p) : Except DecodeError (Instr × Nat)) = .ok (i, n) := h
      cases h
      show (Except.ok (i, off + q2 - (off + p)) : Except DecodeError (Instr × Nat)) = .ok (i, q2 - p)
      rw [Nat.add_sub_add_left]
