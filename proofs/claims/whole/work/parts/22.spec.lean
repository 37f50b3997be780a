/-! the spec table: for P, B, E 0 stands for none -/
def Sz : Type := (Nat → Nat) × (Nat → Nat) × (Nat → Nat) × (Nat → Nat) × (Nat → Nat) × (Nat → Nat) × (Nat → List Nat) × Nat
def Sz.K (z : Sz) : Nat → Nat := z.1
def Sz.P (z : Sz) : Nat → Nat := z.2.1
def Sz.B (z : Sz) : Nat → Nat := z.2.2.1
def Sz.O (z : Sz) : Nat → Nat := z.2.2.2.1
def Sz.E (z : Sz) : Nat → Nat := z.2.2.2.2.1
def Sz.U (z : Sz) : Nat → Nat := z.2.2.2.2.2.1
def Sz.X (z : Sz) : Nat → List Nat := z.2.2.2.2.2.2.1
def Sz.M (z : Sz) : Nat := z.2.2.2.2.2.2.2
/-- numbers are small, texts are words -/
def Sm (z : Sz) : Prop := (∀ c, z.K c < 3) ∧ (∀ c, z.P c < 161) ∧ (∀ c, z.B c < 10) ∧ (∀ c, z.O c < 160) ∧ (∀ c, z.E c < 41) ∧ (∀ c, z.U c < 161) ∧ (∀ c, okw (z.X c))
theorem Sm.k {z : Sz} (h : Sm z) : ∀ c, z.K c < 3 := h.1
theorem Sm.p {z : Sz} (h : Sm z) : ∀ c, z.P c < 161 := h.2.1
theorem Sm.b {z : Sz} (h : Sm z) : ∀ c, z.B c < 10 := h.2.2.1
theorem Sm.o {z : Sz} (h : Sm z) : ∀ c, z.O c < 160 := h.2.2.2.1
theorem Sm.e {z : Sz} (h : Sm z) : ∀ c, z.E c < 41 := h.2.2.2.2.1
theorem Sm.u {z : Sz} (h : Sm z) : ∀ c, z.U c < 161 := h.2.2.2.2.2.1
theorem Sm.x {z : Sz} (h : Sm z) : ∀ c, okw (z.X c) := h.2.2.2.2.2.2
/-- the model's row shows the table -/
def Mz (z : Sz) (r : Nat → Int32) : Prop := (∀ c, c < 160 → r c = nI (z.K c)) ∧ (∀ c, c < 160 → r (160 + c) = eI (z.P c)) ∧ (∀ c, c < 160 → r (320 + c) = eI (z.B c)) ∧ (∀ c, c < 160 → r (480 + c) = nI (z.O c)) ∧ (∀ c, c < 160 → r (640 + c) = eI (z.E c)) ∧ (∀ p, p < 40 → r (800 + 14 * p) = nI (z.U p)) ∧ (∀ p, p < 40 → r (800 + 14 * p + 1) = nI (z.X p).length) ∧ (∀ p i, p < 40 → i < 12 → r (800 + 14 * p + 2 + i) = nI (hd0 ((z.X p).drop i))) ∧ (r 1360 = nI z.M)
theorem Mz.k {z : Sz} {r : Nat → Int32} (h : Mz z r) : ∀ c, c < 160 → r c = nI (z.K c) := h.1
theorem Mz.p {z : Sz} {r : Nat → Int32} (h : Mz z r) : ∀ c, c < 160 → r (160 + c) = eI (z.P c) := h.2.1
theorem Mz.b {z : Sz} {r : Nat → Int32} (h : Mz z r) : ∀ c, c < 160 → r (320 + c) = eI (z.B c) := h.2.2.1
theorem Mz.o {z : Sz} {r : Nat → Int32} (h : Mz z r) : ∀ c, c < 160 → r (480 + c) = nI (z.O c) := h.2.2.2.1
theorem Mz.e {z : Sz} {r : Nat → Int32} (h : Mz z r) : ∀ c, c < 160 → r (640 + c) = eI (z.E c) := h.2.2.2.2.1
theorem Mz.u {z : Sz} {r : Nat → Int32} (h : Mz z r) : ∀ p, p < 40 → r (800 + 14 * p) = nI (z.U p) := h.2.2.2.2.2.1
theorem Mz.n {z : Sz} {r : Nat → Int32} (h : Mz z r) : ∀ p, p < 40 → r (800 + 14 * p + 1) = nI (z.X p).length := h.2.2.2.2.2.2.1
theorem Mz.x {z : Sz} {r : Nat → Int32} (h : Mz z r) : ∀ p i, p < 40 → i < 12 → r (800 + 14 * p + 2 + i) = nI (hd0 ((z.X p).drop i)) := h.2.2.2.2.2.2.2.1
theorem Mz.m {z : Sz} {r : Nat → Int32} (h : Mz z r) : r 1360 = nI z.M := h.2.2.2.2.2.2.2.2
/-- the child by a letter, 0 if there is none -/
def ch (z : Sz) (c l : Nat) : Nat :=
  if 0 < z.O c ∧ z.O c + l < 160 ∧ 0 < z.K (z.O c + l) ∧ z.P (z.O c + l) = c + 1 then z.O c + l else 0
theorem ch_0 {z : Sz} {c l : Nat} (h : 0 < ch z c l) : ch z c l = z.O c + l ∧ 0 < z.O c ∧ z.O c + l < 160 ∧ 0 < z.K (z.O c + l) ∧ z.P (z.O c + l) = c + 1 := by
  by_cases h1 : 0 < z.O c ∧ z.O c + l < 160 ∧ 0 < z.K (z.O c + l) ∧ z.P (z.O c + l) = c + 1
  · exact ⟨by rw [ch, if_pos h1], h1⟩
  · rw [ch, if_neg h1] at h; omega
theorem ch_lt (z : Sz) (c l : Nat) : ch z c l < 160 := by
  rw [ch]; split <;> omega
/-- the letters of a cell's children below n as a mask -/
def msk (z : Sz) (c : Nat) : Nat → Nat
  | 0 => 0
  | n + 1 => msk z c n + (if ch z c n = 0 then 0 else 2 ^ n)
theorem msk_lt (z : Sz) (c : Nat) : ∀ n, msk z c n < 2 ^ n
  | 0 => by simp [msk]
  | n + 1 => by
    have := msk_lt z c n
    rw [msk, Nat.pow_succ]
    split <;> omega
theorem msk_bit (z : Sz) (c : Nat) : ∀ n l, l < n → (msk z c n).testBit l = decide (ch z c l ≠ 0)
  | 0, l, h => by omega
  | n + 1, l, h => by
    have h1 := msk_lt z c n
    rw [msk]
    by_cases hl : l = n
    · subst hl
      split
      · rename_i h2
        rw [Nat.add_zero, Nat.testBit_lt_two_pow h1]; simp [h2]
      · rename_i h2
        rw [Nat.add_comm, Nat.testBit_two_pow_add_eq, Nat.testBit_lt_two_pow h1]; simp [h2]
    · have h3 := msk_bit z c n l (by omega)
      split
      · rw [Nat.add_zero, h3]
      · rw [Nat.add_comm, Nat.testBit_two_pow_add_gt (by omega), h3]
/-! the model's rows read -/
theorem z_isUsed {z : Sz} {t : MS} (hs : Sm z) (h : Mz z (mZ t)) {c : Nat} (hc : c < 160) :
    fM_isUsed (nI c) t = some (if z.K c = 0 then 0 else 1) := by
  have h1 := hs.k c
  show (if inb ((0 : Int32) + nI c) 1361 then _ else none) = _
  rw [show (0 : Int32) + nI c = nI c by rw [← nI_0, nI_add, Nat.zero_add], if_pos (inb_nI (by omega) (by omega)), nI_clamp' (by omega), h.k c hc]
  by_cases h2 : z.K c = 0
  · rw [if_pos (by rw [h2]; rfl), if_pos h2]
  · rw [if_neg (nI_ne0 (by omega) (by omega)), if_neg h2]
theorem z_isLeaf {z : Sz} {t : MS} (hs : Sm z) (h : Mz z (mZ t)) {c : Nat} (hc : c < 160) :
    fM_isLeaf (nI c) t = some (if z.K c = 2 then 1 else 0) := by
  have h1 := hs.k c
  show (if inb ((0 : Int32) + nI c) 1361 then _ else none) = _
  rw [show (0 : Int32) + nI c = nI c by rw [← nI_0, nI_add, Nat.zero_add], if_pos (inb_nI (by omega) (by omega)), nI_clamp' (by omega), h.k c hc]
  by_cases h2 : z.K c = 2
  · rw [if_pos (by rw [h2]; rfl), if_pos h2]
  · rw [if_neg (by rw [show (2 : Int32) = nI 2 by rfl, nI_eq (by omega) (by omega)]; exact h2), if_neg h2]
theorem z_offset {z : Sz} {t : MS} (h : Mz z (mZ t)) {c : Nat} (hc : c < 160) :
    fM_offset (nI c) t = some (nI (z.O c)) := by
  show (if inb ((480 : Int32) + nI c) 1361 then _ else none) = _
  rw [show (480 : Int32) = nI 480 by rfl, nI_add, if_pos (inb_nI (by omega) (by omega)), nI_clamp' (by omega), h.o c hc]
theorem z_child {z : Sz} {t : MS} (hs : Sm z) (h : Mz z (mZ t)) {c l : Nat} (hc : c < 160) (hl : l < 16) :
    fM_child (nI c) (nI l) t = some (if ch z c l = 0 then -1 else nI (ch z c l)) := by
  have h1 := hs.o c
  have hT : ∀ h1 : ¬ (0 < z.O c ∧ z.O c + l < 160 ∧ 0 < z.K (z.O c + l) ∧ z.P (z.O c + l) = c + 1), ch z c l = 0 := fun h1 => if_neg h1
  unfold fM_child
  rw [z_offset h hc]
  simp only [Option.bind_some, gw_let, nI_add, if_true]
  by_cases h2 : z.O c = 0
  · rw [h2, if_pos (by decide), hT (by omega), if_pos rfl]
  · rw [if_neg (nI_nle (by omega) (by omega))]
    by_cases h3 : z.O c + l < 160
    · rw [if_neg (show ¬ (160 : Int32) ≤ nI (z.O c + l) from nI_ge (b := 160) (by omega) (by omega)), z_isUsed hs h h3]
      simp only [Option.bind_some]
      by_cases h4 : z.K (z.O c + l) = 0
      · rw [if_pos h4, if_pos rfl, hT (by omega), if_pos rfl]
      · rw [if_neg h4, if_neg (by decide)]
        rw [show (160 : Int32) = nI 160 by rfl, nI_add, if_pos (inb_nI (by omega) (by omega)), nI_clamp' (by omega), h.p _ h3]
        have h5 := hs.p (z.O c + l)
        by_cases h6 : z.P (z.O c + l) = c + 1
        · rw [if_pos ((eI_nI (by omega) (by omega)).mpr h6), if_neg (by decide)]
          have h7 : ch z c l = z.O c + l := if_pos ⟨by omega, h3, by omega, h6⟩
          rw [h7, if_neg (by omega)]
        · rw [if_neg (fun e => h6 ((eI_nI (by omega) (by omega)).mp e)), hT (by omega), if_pos rfl]
    · rw [if_pos (show (160 : Int32) ≤ nI (z.O c + l) from nI_le (a := 160) (by omega) (by omega)), hT (by omega), if_pos rfl]
