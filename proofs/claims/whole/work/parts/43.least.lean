/-! the least offset -/
def fitB (z : Sz) (m o : Nat) : Nat → Bool
  | 0 => true
  | n + 1 => fitB z m o n && (!m.testBit n || (decide (o + n < 160) && decide (z.K (o + n) = 0)))
theorem fitB_no {z : Sz} {m o j : Nat} (h : fitB z m o j = false) : ∀ d, fitB z m o (j + d) = false
  | 0 => h
  | d + 1 => by
    show (fitB z m o (j + d) && _) = false
    rw [fitB_no h d]; rfl
theorem fitB_ok {z : Sz} {m o : Nat} : ∀ {n : Nat}, fitB z m o n = true → ∀ l, l < n → m.testBit l = true → o + l < 160 ∧ z.K (o + l) = 0
  | 0, _, l, hl, _ => absurd hl (Nat.not_lt_zero l)
  | n + 1, h, l, hl, hm => by
    simp only [fitB, Bool.and_eq_true, Bool.or_eq_true, Bool.not_eq_true', decide_eq_true_eq] at h
    by_cases e : l = n
    · subst e
      rcases h.2 with a | a
      · rw [hm] at a; cases a
      · exact a
    · exact fitB_ok h.1 l (by omega) hm
def lsn (z : Sz) (m : Nat) : Nat → Nat
  | 0 => 0
  | n + 1 => if lsn z m n ≠ 0 then lsn z m n else if fitB z m (n + 1) 9 = true then n + 1 else 0
def lst (z : Sz) (m : Nat) : Nat := lsn z m 159
theorem lsn_keep {z : Sz} {m n : Nat} (h : lsn z m n ≠ 0) : ∀ d, lsn z m (n + d) = lsn z m n
  | 0 => rfl
  | d + 1 => by
    show (if lsn z m (n + d) ≠ 0 then lsn z m (n + d) else _) = _
    rw [lsn_keep h d, if_pos h]
theorem lsn_le (z : Sz) (m : Nat) : ∀ n, lsn z m n ≤ n
  | 0 => Nat.le_refl _
  | n + 1 => by
    have := lsn_le z m n
    rw [lsn]
    split
    · omega
    · split <;> omega
theorem lst_lt (z : Sz) (m : Nat) : lst z m < 160 := by
  have := lsn_le z m 159
  show lsn z m 159 < 160
  omega
theorem lsn_fit {z : Sz} {m : Nat} : ∀ {n : Nat}, lsn z m n ≠ 0 → fitB z m (lsn z m n) 9 = true
  | 0, h => absurd rfl h
  | n + 1, h => by
    rw [lsn] at h ⊢
    by_cases e : lsn z m n ≠ 0
    · rw [if_pos e]; exact lsn_fit e
    · rw [if_neg e] at h ⊢
      by_cases e2 : fitB z m (n + 1) 9 = true
      · rw [if_pos e2]; exact e2
      · rw [if_neg e2] at h; exact absurd rfl h
theorem lst_fit {z : Sz} {m : Nat} (h : lst z m ≠ 0) : ∀ l, l < 9 → m.testBit l = true → lst z m + l < 160 ∧ z.K (lst z m + l) = 0 := fitB_ok (lsn_fit h)
theorem bit1_e : ∀ m, m < 512 → ∀ l, l < 9 → ((((nI m >>> (nI l &&& 31)) &&& (1 : Int32)) = 1) = (m.testBit l = true)) := by
  have h : ∀ m, m < 512 → ∀ l, l < 9 → (decide (((nI m >>> (nI l &&& 31)) &&& (1 : Int32)) = 1) = m.testBit l) := by decide +kernel
  intro m hm l hl
  have h1 := h m hm l hl
  apply propext
  rw [← h1]
  exact ⟨fun e => decide_eq_true e, fun e => of_decide_eq_true e⟩
theorem t_leastOffset {z : Sz} {t : TS} (hs : Sm z) (h : ∀ c, c < 160 → tK t c = nI (z.K c)) {m : Nat} (hm : m < 512) : fT_leastOffset (nI m) t = some (nI (lst z m)) := by
  unfold fT_leastOffset
  refine lp_walk (fun k y => y = nI (k + 1) ∧ lsn z m k = 0) 159 _ ⟨rfl, rfl⟩ ?_ (by omega)
  rintro k y hk ⟨rfl, h1⟩
  try dsimp only
  by_cases e : k = 159
  · left
    subst e
    rw [if_pos (show (160 : Int32) ≤ nI (159 + 1) by decide), show lst z m = 0 from h1]; rfl
  · rw [if_neg (show ¬ (160 : Int32) ≤ nI (k + 1) from nI_ge (b := 160) (by omega) (by omega))]
    have hin : ∀ L : Option Int32, L = some (if fitB z m (k + 1) 9 = true then 1 else 0) → ∀ F : Int32 → Option (Int32 ⊕ Int32), L.bind F = F (if fitB z m (k + 1) 9 = true then 1 else 0) := by
      intro L hL F; rw [hL]; rfl
    rw [hin _ ?_]
    · have hls : lsn z m (k + 1) = if lsn z m k ≠ 0 then lsn z m k else if fitB z m (k + 1) 9 = true then k + 1 else 0 := rfl
      rw [if_neg (by omega)] at hls
      by_cases e1 : fitB z m (k + 1) 9 = true
      · left
        rw [if_pos e1] at hls
        rw [if_pos e1, if_neg (by decide)]
        have := lsn_keep (z := z) (m := m) (n := k + 1) (by omega) (158 - k)
        rw [show k + 1 + (158 - k) = 159 by omega] at this
        rw [lst, this, hls]
      · right
        rw [if_neg e1] at hls
        rw [if_neg e1, if_pos rfl, nI_1]
        exact ⟨by omega, _, rfl, rfl, hls⟩
    · refine lp_walk (fun j y => y = (if fitB z m (k + 1) j = true then 1 else 0, nI j)) 9 _ rfl ?_ (by omega)
      rintro j y hj rfl
      try dsimp only
      by_cases e2 : j = 9
      · left
        subst e2
        rw [if_pos (show (8 : Int32) < nI 9 by decide)]
      · rw [if_neg (show ¬ (8 : Int32) < nI j from nI_nlt (b := j) (a := 8) (by omega) (by omega))]
        by_cases e3 : fitB z m (k + 1) j = true
        · right
          rw [if_pos e3, if_neg (by decide)]
          simp only [gw_let, bit_e m hm j (by omega)]
          rw [nI_add, nI_1]
          refine ⟨by omega, (if fitB z m (k + 1) (j + 1) = true then 1 else 0, nI (j + 1)), ?_, rfl⟩
          have hf : fitB z m (k + 1) (j + 1) = (fitB z m (k + 1) j && (!m.testBit j || (decide (k + 1 + j < 160) && decide (z.K (k + 1 + j) = 0)))) := rfl
          rw [hf, e3, Bool.true_and]
          by_cases e4 : m.testBit j = false
          · rw [if_pos e4, e4]; rfl
          · rw [if_neg e4, show m.testBit j = true by simpa using e4]
            by_cases e5 : k + 1 + j < 160
            · have hb := hs.k (k + 1 + j)
              rw [if_neg (show ¬ (160 : Int32) ≤ nI (k + 1 + j) from nI_ge (b := 160) (by omega) (by omega)), if_pos (inb_nI (by omega) (by omega)), nI_clamp' (by omega), h _ e5]
              by_cases e6 : z.K (k + 1 + j) = 0
              · rw [if_pos (by rw [e6]; rfl), if_pos (by simp [e5, e6])]
              · rw [if_neg (nI_ne0 (by omega) (by omega)), if_neg (by simp [e6])]
            · rw [if_pos (show (160 : Int32) ≤ nI (k + 1 + j) from nI_le (a := 160) (by omega) (by omega)), if_neg (by simp [e5])]
        · left
          rw [if_neg e3, if_pos rfl]
          have := fitB_no (z := z) (m := m) (o := k + 1) (j := j) (by simpa using e3) (9 - j)
          rw [show j + (9 - j) = 9 by omega] at this
          rw [if_neg (by rw [this]; decide)]
theorem z_fits {z : Sz} {t : MS} (hs : Sm z) (h : Mz z (mZ t)) {m o : Nat} (hm : m < 512) (ho : o < 160) : fM_fits (nI o) (nI m) t = some (if fitB z m o 9 = true then 1 else 0) := by
  unfold fM_fits
  rw [lp_eq (S := fun j => (if fitB z m o j = true then 1 else 0, nI j)) (N := 9) (o := if fitB z m o 9 = true then 1 else 0)]
  · simp only [Option.bind_some]
    rw [if_pos]
    split
    · exact Or.inr rfl
    · exact Or.inl rfl
  · rfl
  · intro j hj
    try dsimp only
    rw [if_neg (show ¬ (9 : Int32) ≤ nI j from nI_ge (b := 9) (by omega) (by omega))]
    simp only [gw_let, bit1_e m hm j hj]
    rw [nI_add, nI_1]
    have hf : fitB z m o (j + 1) = (fitB z m o j && (!m.testBit j || (decide (o + j < 160) && decide (z.K (o + j) = 0)))) := rfl
    rw [hf]
    by_cases e3 : fitB z m o j = true
    · rw [if_pos e3, if_neg (show ¬ (1 : Int32) = 0 by decide), if_neg (show ¬ (1 : Int32) = 0 by decide), if_pos trivial, e3, Bool.true_and]
      by_cases e4 : m.testBit j = true
      · rw [if_pos e4, e4]
        by_cases e5 : o + j < 160
        · rw [if_neg (show ¬ (160 : Int32) ≤ nI (o + j) from nI_ge (b := 160) (by omega) (by omega)), z_isUsed hs h e5]
          simp only [Option.bind_some]
          by_cases e6 : z.K (o + j) = 0
          · rw [if_pos e6, if_pos rfl, if_pos (by simp [e5, e6])]
          · rw [if_neg e6, if_neg (by decide), if_neg (by simp [e6])]
        · rw [if_pos (show (160 : Int32) ≤ nI (o + j) from nI_le (a := 160) (by omega) (by omega)), if_neg (by simp [e5])]
      · rw [if_neg e4, show m.testBit j = false by simpa using e4]; rfl
    · rw [if_neg e3, if_pos rfl, show fitB z m o j = false by simpa using e3]
      split <;> rfl
  · dsimp only
    rw [if_pos (show (9 : Int32) ≤ nI 9 by decide)]
  · omega
theorem z_leastOffset {z : Sz} {t : MS} (hs : Sm z) (h : Mz z (mZ t)) {m : Nat} (hm : m < 512) : fM_leastOffset (nI m) t = some (nz (lst z m)) := by
  unfold fM_leastOffset
  refine lp_walk (fun k y => y = nI (k + 1) ∧ lsn z m k = 0) 159 _ ⟨rfl, rfl⟩ ?_ (by omega)
  rintro k y hk ⟨rfl, h1⟩
  try dsimp only
  by_cases e : k = 159
  · left
    subst e
    rw [if_pos (show (160 : Int32) ≤ nI (159 + 1) by decide), show lst z m = 0 from h1]; rfl
  · rw [if_neg (show ¬ (160 : Int32) ≤ nI (k + 1) from nI_ge (b := 160) (by omega) (by omega)), z_fits hs h hm (by omega)]
    simp only [Option.bind_some]
    have hls : lsn z m (k + 1) = if lsn z m k ≠ 0 then lsn z m k else if fitB z m (k + 1) 9 = true then k + 1 else 0 := rfl
    rw [if_neg (by omega)] at hls
    by_cases e1 : fitB z m (k + 1) 9 = true
    · left
      rw [if_pos e1] at hls
      rw [if_pos e1, if_neg (by decide)]
      have := lsn_keep (z := z) (m := m) (n := k + 1) (by omega) (158 - k)
      rw [show k + 1 + (158 - k) = 159 by omega] at this
      rw [lst, this, hls, nz_1 (by omega)]
    · right
      rw [if_neg e1] at hls
      rw [if_neg e1, if_pos rfl, nI_1]
      exact ⟨by omega, _, rfl, rfl, hls⟩
/-! one bit, two bits -/
theorem nI_or (a b : Nat) : nI (a ||| b) = nI a ||| nI b := Int32.toBitVec_inj.mp (by
  rw [Int32.toBitVec_or]
  exact BitVec.ofNat_or)
theorem shl_e : ∀ l, l < 9 → (1 : Int32) <<< (nI l &&& 31) = nI (2 ^ l) := by decide +kernel
theorem or_e : ∀ a, a < 512 → ∀ l, l < 9 → nI a ||| nI (2 ^ l) = nI (a ||| 2 ^ l) := by
  intro a ha l hl
  exact (nI_or _ _).symm
theorem or_lt {a l : Nat} (ha : a < 512) (hl : l < 9) : a ||| 2 ^ l < 512 := by
  have h1 : (2 : Nat) ^ l < 2 ^ 9 := Nat.pow_lt_pow_right (by omega) hl
  exact Nat.or_lt_two_pow (n := 9) ha h1
