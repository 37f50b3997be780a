/-! texts: a word of letters 1 to 8, at most 12, as one number -/
def enc : List Nat → Nat
  | [] => 0
  | l :: r => l + 16 * enc r
def okw (w : List Nat) : Prop := w.length ≤ 12 ∧ ∀ l ∈ w, 1 ≤ l ∧ l ≤ 8
theorem okw_nil : okw [] := ⟨Nat.zero_le _, fun _ h => nomatch h⟩
theorem okw_tail {l : Nat} {r : List Nat} (h : okw (l :: r)) : okw r := ⟨by have := h.1; rw [List.length_cons] at this; omega, fun x hx => h.2 x (List.mem_cons_of_mem _ hx)⟩
theorem okw_head {l : Nat} {r : List Nat} (h : okw (l :: r)) : 1 ≤ l ∧ l ≤ 8 := h.2 l List.mem_cons_self
theorem okw_drop {w : List Nat} (h : okw w) (k : Nat) : okw (w.drop k) := ⟨by rw [List.length_drop]; have := h.1; omega, fun x hx => h.2 x (List.mem_of_mem_drop hx)⟩
theorem okw_take {w : List Nat} (h : okw w) (k : Nat) : okw (w.take k) := ⟨by rw [List.length_take]; have := h.1; omega, fun x hx => h.2 x (List.mem_of_mem_take hx)⟩
theorem enc_lt : ∀ {w : List Nat}, (∀ l ∈ w, 1 ≤ l ∧ l ≤ 8) → enc w < 16 ^ w.length
  | [], _ => by simp [enc]
  | l :: r, h => by
    have h1 := enc_lt (w := r) (fun x hx => h x (List.mem_cons_of_mem _ hx))
    have h2 := h l List.mem_cons_self
    show l + 16 * enc r < 16 ^ (r.length + 1)
    rw [Nat.pow_succ]
    omega
theorem enc_lt48 {w : List Nat} (h : okw w) : enc w < 2 ^ 48 := by
  have h1 := enc_lt h.2
  have h2 : 16 ^ w.length ≤ 16 ^ 12 := Nat.pow_le_pow_right (by omega) h.1
  omega
theorem enc_inj : ∀ {v w : List Nat}, (∀ l ∈ v, 1 ≤ l ∧ l ≤ 8) → (∀ l ∈ w, 1 ≤ l ∧ l ≤ 8) → enc v = enc w → v = w
  | [], [], _, _, _ => rfl
  | [], l :: r, _, h, e => by
    have := h l List.mem_cons_self
    simp only [enc] at e
    omega
  | l :: r, [], h, _, e => by
    have := h l List.mem_cons_self
    simp only [enc] at e
    omega
  | l :: r, l' :: r', h, h', e => by
    have h1 := h l List.mem_cons_self
    have h2 := h' l' List.mem_cons_self
    simp only [enc] at e
    have h3 : l = l' := by omega
    have h4 : enc r = enc r' := by omega
    rw [h3, enc_inj (fun x hx => h x (List.mem_cons_of_mem _ hx)) (fun x hx => h' x (List.mem_cons_of_mem _ hx)) h4]
/-- the first letter, 0 behind the last -/
def hd0 : List Nat → Nat
  | [] => 0
  | l :: _ => l
theorem enc_mod {w : List Nat} (h : okw w) : enc w % 16 = hd0 w := by
  cases w with
  | nil => rfl
  | cons l r =>
    have := okw_head h
    show (l + 16 * enc r) % 16 = l
    omega
theorem enc_div {w : List Nat} (h : okw w) : enc w / 16 = enc w.tail := by
  cases w with
  | nil => rfl
  | cons l r =>
    have := okw_head h
    show (l + 16 * enc r) / 16 = enc r
    omega
theorem enc_divk : ∀ (k : Nat) {w : List Nat}, okw w → enc w / 16 ^ k = enc (w.drop k)
  | 0, w, _ => by simp
  | k + 1, w, h => by
    rw [Nat.pow_succ, Nat.mul_comm, ← Nat.div_div_eq_div_mul, enc_div h]
    cases w with
    | nil =>
      show enc [] / 16 ^ k = enc []
      simp [enc]
    | cons l r => exact enc_divk k (okw_tail h)
theorem enc_modk : ∀ (k : Nat) {w : List Nat}, okw w → enc w % 16 ^ k = enc (w.take k)
  | 0, w, _ => by simp [enc, Nat.mod_one]
  | k + 1, [], _ => by simp [enc]
  | k + 1, l :: r, h => by
    have h1 := okw_head h
    have h2 := enc_modk k (okw_tail h)
    show (l + 16 * enc r) % 16 ^ (k + 1) = l + 16 * enc (r.take k)
    rw [← h2, Nat.pow_succ, Nat.mul_comm (16 ^ k) 16, Nat.mod_mul]
    rw [show (l + 16 * enc r) % 16 = l by omega, show (l + 16 * enc r) / 16 = enc r by omega]
theorem enc_app : ∀ (v w : List Nat), enc (v ++ w) = enc v + 16 ^ v.length * enc w
  | [], w => by simp [enc]
  | l :: r, w => by
    show l + 16 * enc (r ++ w) = l + 16 * enc r + 16 ^ (r.length + 1) * enc w
    rw [enc_app r w, Nat.pow_succ, Nat.mul_add, Nat.mul_comm (16 ^ r.length) 16, Nat.mul_assoc]
    omega
theorem enc_0 {w : List Nat} (h : okw w) : enc w = 0 ↔ w = [] := by
  constructor
  · intro e
    exact enc_inj h.2 okw_nil.2 (by rw [e]; rfl)
  · rintro rfl; rfl
theorem nI_mul (a b : Nat) : nI a * nI b = nI (a * b) := (Int32.ofNat_mul a b).symm
theorem lN_inj {a b : Nat} (ha : a < 2 ^ 64) (hb : b < 2 ^ 64) (h : lN a = lN b) : a = b := by
  have h1 : (lN a).toBitVec.toNat = (lN b).toBitVec.toNat := by rw [h]
  rw [wb_tn ha, wb_tn hb] at h1
  exact h1
theorem firstOf_e {w : List Nat} (h : okw w) : fX_firstOf (lN (enc w)) = nI (hd0 w) := by
  have h1 := enc_lt48 h
  show (lN (enc w) &&& lN 15).toInt32 = _
  rw [show (15 : Nat) = 2 ^ 4 - 1 by decide, wb_mask (by omega) (by omega), lN_i]
  rw [show (2 : Nat) ^ 4 = 16 by decide, enc_mod h]
theorem withoutFirst_e {w : List Nat} (h : okw w) : fX_withoutFirst (lN (enc w)) = lN (enc w.tail) := by
  have h1 := enc_lt48 h
  show ((lN (enc w)).toUInt64 >>> ((nI 4).toInt64.toUInt64 &&& Int64.toUInt64 63)).toInt64 = _
  rw [wb_shr (by omega) (by omega), show (2 : Nat) ^ 4 = 16 by decide, enc_div h]
theorem letterAt_e {w : List Nat} (h : okw w) {i : Nat} (hi : i < 13) : fX_letterAt (lN (enc w)) (nI i) = nI (hd0 (w.drop i)) := by
  have h1 := enc_lt48 h
  show fX_firstOf ((lN (enc w)).toUInt64 >>> ((nI 4 * nI i).toInt64.toUInt64 &&& Int64.toUInt64 63)).toInt64 = _
  rw [nI_mul, wb_shr (by omega) (by omega), Nat.pow_mul, show (2 : Nat) ^ 4 = 16 by decide, enc_divk i h, firstOf_e (okw_drop h i)]
theorem startOf_e {w : List Nat} (h : okw w) {k : Nat} (hk : k < 13) : fX_startOf (lN (enc w)) (nI k) = lN (enc (w.take k)) := by
  have h1 := enc_lt48 h
  have hp : 16 ^ k ≤ 16 ^ 12 := Nat.pow_le_pow_right (by omega) (by omega)
  have hp0 : 0 < 16 ^ k := Nat.pow_pos (by omega)
  show lN (enc w) &&& ((lN 1 <<< ((nI 4 * nI k).toInt64 &&& 63)) - lN 1) = _
  rw [nI_mul, wb_shl 1 (by omega), Nat.one_mul, lN_sub (Nat.pow_pos (by omega)), wb_mask (by omega) (by omega)]
  rw [Nat.pow_mul, show (2 : Nat) ^ 4 = 16 by decide, enc_modk k h]
theorem withLetter_e {w : List Nat} (h : okw w) {l : Nat} (hl : l ≤ 8) (hw : w.length < 12) : fX_withLetter (lN (enc w)) (nI w.length) (nI l) = lN (enc (w ++ [l])) := by
  have h1 := enc_lt h.2
  have hp : 16 ^ w.length ≤ 16 ^ 11 := Nat.pow_le_pow_right (by omega) (by omega)
  show lN (enc w) ||| ((nI l).toInt64 <<< ((nI 4 * nI w.length).toInt64 &&& 63)) = _
  rw [nI_mul, nI_l (by omega), wb_shl l (by omega), Nat.pow_mul, show (2 : Nat) ^ 4 = 16 by decide]
  have e : enc (w ++ [l]) = enc w + 16 ^ w.length * l := by rw [enc_app]; simp [enc]
  have hm : l * 16 ^ w.length ≤ 8 * 16 ^ 11 := Nat.mul_le_mul hl hp
  rw [wb_or (by omega) (by omega), e, Nat.mul_comm l]
  congr 1
  rw [show (16 : Nat) ^ w.length = 2 ^ (4 * w.length) by rw [Nat.pow_mul]] at h1 ⊢
  rw [Nat.or_comm, ← Nat.two_pow_add_eq_or_of_lt h1]
  omega
