/-! loops that are known step by step -/
theorem lp_eq {σ ω : Type} {step : σ → Option (ω ⊕ σ)} {x : σ} (S : Nat → σ) (N : Nat) (o : ω) (h0 : x = S 0) (hs : ∀ k, k < N → step (S k) = some (.inr (S (k + 1)))) (hN : step (S N) = some (.inl o)) (hf : N < 100000) : gw_lp step gw_fl x = some o := by
  obtain ⟨o', h1, h2⟩ := lp_run (step := step) (fun k y => y = S k) (fun o' => o' = o) N x h0 (by
    intro k y hk hy
    subst hy
    by_cases e : k = N
    · subst e
      exact Or.inl ⟨o, hN, rfl⟩
    · exact Or.inr ⟨by omega, S (k + 1), hs k (by omega), rfl⟩) hf
  rw [h1, h2]
theorem lp_walk {σ ω : Type} {step : σ → Option (ω ⊕ σ)} {x : σ} (I : Nat → σ → Prop) (N : Nat) (R : ω) (h0 : I 0 x) (hs : ∀ k y, k ≤ N → I k y → step y = some (.inl R) ∨ (k < N ∧ ∃ y', step y = some (.inr y') ∧ I (k + 1) y')) (hf : N < 100000) : gw_lp step gw_fl x = some R := by
  obtain ⟨o', h1, h2⟩ := lp_run (step := step) I (fun o' => o' = R) N x h0 (by
    intro k y hk hy
    rcases hs k y hk hy with h | h
    · exact Or.inl ⟨R, h, rfl⟩
    · exact Or.inr h) hf
  rw [h1, h2]
/-- a cell's number, 0 for none -/
def nz (n : Nat) : Int32 := if n = 0 then -1 else nI n
theorem nz_0 : nz 0 = -1 := rfl
theorem nz_1 {n : Nat} (h : n ≠ 0) : nz n = nI n := if_neg h
theorem nz_m1 {n : Nat} (h : n < 2147483648) : nz n = -1 ↔ n = 0 := by
  rw [nz]
  by_cases e : n = 0
  · rw [if_pos e]; exact ⟨fun _ => e, fun _ => rfl⟩
  · rw [if_neg e]; exact ⟨fun a => absurd a (nI_m1 h), fun a => absurd a e⟩
theorem encN_eq {a b : List Nat} (ha : okw a) (hb : okw b) : lN (enc a) = lN (enc b) ↔ a = b := by
  constructor
  · intro e
    have h1 := enc_lt48 ha
    have h2 := enc_lt48 hb
    exact enc_inj ha.2 hb.2 (lN_inj (by omega) (by omega) e)
  · intro e; rw [e]
theorem encN_0 {a : List Nat} (ha : okw a) : lN (enc a) = 0 ↔ a = [] := by
  rw [show (0 : Int64) = lN (enc []) by rfl, encN_eq ha okw_nil]
theorem hd0_lt {w : List Nat} (h : ∀ l ∈ w, 1 ≤ l ∧ l ≤ 8) : hd0 w < 9 := by
  cases w with
  | nil => show 0 < 9; omega
  | cons l r => have := h l List.mem_cons_self; show l < 9; omega
theorem hd0_0 {w : List Nat} (h : ∀ l ∈ w, 1 ≤ l ∧ l ≤ 8) : hd0 w = 0 ↔ w = [] := by
  cases w with
  | nil => exact ⟨fun _ => rfl, fun _ => rfl⟩
  | cons l r =>
    have := h l List.mem_cons_self
    constructor
    · intro e
      have : l = 0 := e
      omega
    · intro e; cases e
theorem okw_tl {w : List Nat} (h : okw w) : okw w.tail := by
  cases w with
  | nil => exact h
  | cons l r => exact okw_tail h
theorem t_lengthOf {w : List Nat} (h : okw w) : fX_lengthOf (lN (enc w)) = some (nI w.length) := by
  unfold fX_lengthOf
  rw [lp_eq (S := fun k => (nI (min k w.length), nI k)) (N := 12) (o := nI w.length)]
  · rfl
  · rw [Nat.zero_min]; rfl
  · intro k hk
    try dsimp only
    rw [if_neg (show ¬ (12 : Int32) ≤ nI k from nI_ge (b := 12) (by omega) (by omega)), letterAt_e h (by omega)]
    have hd := okw_drop h k
    have h9 := hd0_lt hd.2
    by_cases e : w.length ≤ k
    · rw [if_pos (by rw [List.drop_eq_nil_of_le e]; rfl), nI_1, Nat.min_eq_right e, Nat.min_eq_right (by omega)]
    · have e2 : hd0 (w.drop k) ≠ 0 := fun a => e (List.drop_eq_nil_iff.mp ((hd0_0 hd.2).mp a))
      rw [if_neg (nI_ne0 (by omega) (by omega)), nI_1, nI_1, Nat.min_eq_left (by omega), Nat.min_eq_left (by omega)]
  · dsimp only
    rw [if_pos (show (12 : Int32) ≤ nI 12 by decide), Nat.min_eq_right h.1]
  · omega
theorem pfx_take : ∀ {v u : List Nat}, pfx v u = true ↔ u.take v.length = v
  | [], u => by simp [pfx]
  | b :: v, [] => by simp [pfx]
  | b :: v, a :: u => by
    simp only [pfx, List.length_cons, List.take_succ_cons, List.cons.injEq]
    by_cases e : a = b
    · rw [if_pos e, pfx_take]
      exact ⟨fun h => ⟨e, h⟩, fun h => h.2⟩
    · rw [if_neg e]
      exact ⟨fun h => (nomatch h), fun h => absurd h.1 e⟩
theorem t_begins {u v : List Nat} (hu : okw u) (hv : okw v) : fX_begins (lN (enc u)) (lN (enc v)) = some (if pfx v u = true then 1 else 0) := by
  unfold fX_begins
  rw [t_lengthOf hv]
  show (if fX_startOf (lN (enc u)) (nI v.length) = lN (enc v) then some 1 else some 0) = _
  rw [startOf_e hu (by have := hv.1; omega)]
  by_cases e : pfx v u = true
  · rw [if_pos ((encN_eq (okw_take hu _) hv).mpr (pfx_take.mp e)), if_pos e]
  · rw [if_neg (fun a => e (pfx_take.mpr ((encN_eq (okw_take hu _) hv).mp a))), if_neg e]
theorem ltw_hd : ∀ {u v : List Nat}, (∀ l ∈ u, 1 ≤ l ∧ l ≤ 8) → (∀ l ∈ v, 1 ≤ l ∧ l ≤ 8) → ltw u v = if hd0 u = hd0 v then ltw u.tail v.tail else decide (hd0 u < hd0 v)
  | [], [], _, _ => rfl
  | a :: u, [], h, _ => by
    have := h a List.mem_cons_self
    show false = if a = 0 then _ else decide (a < 0)
    rw [if_neg (by omega)]; simp
  | [], b :: v, _, h => by
    have := h b List.mem_cons_self
    show true = if 0 = b then _ else decide (0 < b)
    rw [if_neg (by omega)]; simp; omega
  | a :: u, b :: v, _, _ => rfl
theorem t_isAhead {u v : List Nat} (hu : okw u) (hv : okw v) : fX_isAhead (lN (enc u)) (lN (enc v)) = some (if ltw u v = true then 1 else 0) := by
  unfold fX_isAhead
  refine lp_walk (fun k y => y = nI k ∧ ltw (u.drop k) (v.drop k) = ltw u v) 12 _ ⟨rfl, rfl⟩ ?_ (by omega)
  rintro k y hk ⟨rfl, h1⟩
  try dsimp only
  by_cases e : k = 12
  · left
    rw [if_pos (show (12 : Int32) ≤ nI k by rw [e]; decide), ← h1, show v.drop k = [] from List.drop_eq_nil_of_le (by have := hv.1; omega)]
    cases u.drop k <;> rfl
  · rw [if_neg (show ¬ (12 : Int32) ≤ nI k from nI_ge (b := 12) (by omega) (by omega))]
    simp only [gw_let]
    rw [letterAt_e hu (by omega), letterAt_e hv (by omega)]
    have d1 := hd0_lt (okw_drop hu k).2
    have d2 := hd0_lt (okw_drop hv k).2
    rw [ltw_hd (okw_drop hu k).2 (okw_drop hv k).2] at h1
    by_cases e1 : hd0 (u.drop k) = hd0 (v.drop k)
    · right
      rw [if_pos e1] at h1
      refine ⟨by omega, nI (k + 1), ?_, rfl, ?_⟩
      · rw [if_pos (by rw [e1]), nI_1]
      · rw [← h1, List.tail_drop, List.tail_drop]
    · left
      rw [if_neg e1] at h1
      rw [if_neg (fun a => e1 (nI_inj (by omega) (by omega) a)), ← h1]
      by_cases e2 : hd0 (u.drop k) < hd0 (v.drop k)
      · rw [if_neg (nI_ge e2 (by omega)), if_pos (decide_eq_true e2)]
      · rw [if_pos (nI_le (by omega) (by omega)), if_neg (by simp [e2])]
/-- a text with another one behind it -/
theorem join_e {v e : List Nat} (hv : okw v) (he : okw e) (hl : v.length + e.length ≤ 12) : lN (enc v) ||| (lN (enc e) <<< (((4 : Int32) * nI v.length).toInt64 &&& 63)) = lN (enc (v ++ e)) := by
  have h1 := enc_lt hv.2
  have h2 := enc_lt he.2
  have hp : 16 ^ v.length * 16 ^ e.length = 16 ^ (v.length + e.length) := (Nat.pow_add _ _ _).symm
  have hp2 : 16 ^ (v.length + e.length) ≤ 16 ^ 12 := Nat.pow_le_pow_right (by omega) hl
  have hp1 : 16 ^ v.length ≤ 16 ^ 12 := Nat.pow_le_pow_right (by omega) hv.1
  have hq : enc e * 16 ^ v.length < 2 ^ 64 := by
    have : enc e * 16 ^ v.length ≤ 16 ^ e.length * 16 ^ v.length := Nat.mul_le_mul_right _ (by omega)
    rw [Nat.mul_comm (16 ^ e.length)] at this
    omega
  show lN (enc v) ||| (lN (enc e) <<< ((nI 4 * nI v.length).toInt64 &&& 63)) = _
  rw [nI_mul, wb_shl _ (by have := hv.1; omega), Nat.pow_mul, show (2 : Nat) ^ 4 = 16 by decide]
  rw [wb_or (by omega) hq, enc_app, Nat.mul_comm (enc e)]
  congr 1
  rw [show (16 : Nat) ^ v.length = 2 ^ (4 * v.length) by rw [Nat.pow_mul]] at h1 ⊢
  rw [Nat.or_comm, ← Nat.two_pow_add_eq_or_of_lt h1]
  omega
theorem join_0 (x : Int64) (i : Int64) : x ||| ((0 : Int64) <<< i) = x := by
  rw [Int64.zero_shiftLeft, Int64.or_zero]
