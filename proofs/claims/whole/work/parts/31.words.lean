/-! the leaves below a cell, each with the rest of its word, in their order -/
def pre : Nat → List Nat → List Nat
  | 0, w => w
  | l + 1, w => (l + 1) :: w
theorem pre_s {l : Nat} (h : 1 ≤ l) (w : List Nat) : pre l w = l :: w := by
  cases l with
  | zero => omega
  | succ l => rfl
def gr (g : Nat → List (Nat × List Nat)) : Nat → List (Nat × List Nat)
  | 0 => []
  | n + 1 => gr g n ++ (g n).map (fun p => (p.1, pre n p.2))
def tl (z : Sz) : Nat → Nat → List (Nat × List Nat)
  | 0, _ => []
  | f + 1, c => if z.K c = 2 then [(c, z.X (z.E c - 1))] else gr (fun l => if ch z c l = 0 then [] else tl z f (ch z c l)) 9
def Tz (z : Sz) (D : Nat → Nat) (c : Nat) : List (Nat × List Nat) := tl z (14 - D c) c
def Tc (z : Sz) (D : Nat → Nat) (c l : Nat) : List (Nat × List Nat) := if ch z c l = 0 then [] else Tz z D (ch z c l)
theorem gr_congr {g g' : Nat → List (Nat × List Nat)} : ∀ {n : Nat}, (∀ l, l < n → g l = g' l) → gr g n = gr g' n
  | 0, _ => rfl
  | n + 1, h => by
    show gr g n ++ _ = gr g' n ++ _
    rw [gr_congr (fun l hl => h l (by omega)), h n (by omega)]
theorem T_leaf {z : Sz} {D : Nat → Nat} (h : WF z D) {c : Nat} (hk : z.K c = 2) : Tz z D c = [(c, z.X (z.E c - 1))] := by
  have := h.dp (c := c) (by omega)
  rw [Tz, show 14 - D c = (13 - D c) + 1 by omega, tl, if_pos hk]
theorem T_inner {z : Sz} {D : Nat → Nat} (h : WF z D) {c : Nat} (hk : z.K c = 1) : Tz z D c = gr (Tc z D c) 9 := by
  have := h.dp (c := c) (by omega)
  rw [Tz, show 14 - D c = (13 - D c) + 1 by omega, tl, if_neg (by omega)]
  refine gr_congr (fun l _ => ?_)
  show (if ch z c l = 0 then [] else _) = Tc z D c l
  rw [Tc]
  by_cases hc : ch z c l = 0
  · rw [if_pos hc, if_pos hc]
  · rw [if_neg hc, if_neg hc, Tz, (h.chp hc).2.2.2.2.2.2.1, show 14 - (D c + 1) = 13 - D c by omega]
theorem Tc_0 {z : Sz} {D : Nat → Nat} {c l : Nat} (hc : ch z c l = 0) : Tc z D c l = [] := if_pos hc
theorem Tc_1 {z : Sz} {D : Nat → Nat} {c l : Nat} (hc : ch z c l ≠ 0) : Tc z D c l = Tz z D (ch z c l) := if_neg hc
theorem gr_mem {g : Nat → List (Nat × List Nat)} {p : Nat × List Nat} : ∀ {n : Nat}, p ∈ gr g n ↔ ∃ l, l < n ∧ ∃ q, q ∈ g l ∧ p = (q.1, pre l q.2)
  | 0 => by
    constructor
    · intro h; cases h
    · rintro ⟨l, hl, -⟩; omega
  | n + 1 => by
    show p ∈ gr g n ++ _ ↔ _
    rw [List.mem_append, gr_mem]
    constructor
    · rintro (⟨l, hl, q, h1, h2⟩ | h)
      · exact ⟨l, by omega, q, h1, h2⟩
      · obtain ⟨q, h1, h2⟩ := List.mem_map.mp h
        exact ⟨n, by omega, q, h1, h2.symm⟩
    · rintro ⟨l, hl, q, h1, h2⟩
      by_cases e : l = n
      · subst e
        exact Or.inr (List.mem_map.mpr ⟨q, h1, h2.symm⟩)
      · exact Or.inl ⟨l, by omega, q, h1, h2⟩
theorem gr_len {g : Nat → List (Nat × List Nat)} : ∀ {n : Nat}, (gr g n).length = sm (fun l => (g l).length) n
  | 0 => rfl
  | n + 1 => by
    show (gr g n ++ _).length = sm _ n + _
    rw [List.length_append, List.length_map, gr_len]
theorem gr_get {g : Nat → List (Nat × List Nat)} {l r : Nat} (h1 : sm (fun k => (g k).length) l ≤ r) (h2 : r < sm (fun k => (g k).length) (l + 1)) : ∀ {n : Nat}, l < n → (gr g n)[r]? = ((g l)[r - sm (fun k => (g k).length) l]?).map (fun p => (p.1, pre l p.2))
  | 0, h => by omega
  | n + 1, h => by
    show (gr g n ++ _)[r]? = _
    by_cases e : l = n
    · subst e
      rw [List.getElem?_append_right (by rw [gr_len]; exact h1), gr_len, List.getElem?_map]
    · have h3 := gr_get h1 h2 (n := n) (by omega)
      have h4 : sm (fun k => (g k).length) (l + 1) ≤ sm (fun k => (g k).length) n := by
        have : ∀ d, sm (fun k => (g k).length) (l + 1) ≤ sm (fun k => (g k).length) (l + 1 + d) := by
          intro d
          induction d with
          | zero => exact Nat.le_refl _
          | succ d ih => exact Nat.le_trans ih (Nat.le_add_right _ _)
        have h5 := this (n - (l + 1))
        rwa [show l + 1 + (n - (l + 1)) = n by omega] at h5
      rw [List.getElem?_append_left (by rw [gr_len]; omega), h3]
theorem T_in {z : Sz} {D : Nat → Nat} (h : WF z D) : ∀ c, z.K c ≠ 0 → ∀ y u, (y, u) ∈ Tz z D c → z.K y = 2 ∧ c ∈ chain z D y := by
  refine wf_ind h _ ?_
  intro c hk ih y u hm
  rcases h.k12 hk with h1 | h1
  · rw [T_inner h h1, gr_mem] at hm
    obtain ⟨l, hl, q, h2, h3⟩ := hm
    by_cases hc : ch z c l = 0
    · rw [Tc_0 hc] at h2; cases h2
    · rw [Tc_1 hc] at h2
      obtain ⟨a1, a2⟩ := ih l hc q.1 q.2 h2
      have e : y = q.1 := by injection h3
      rw [e]
      exact ⟨a1, chain_up h _ (by omega) c l hc a2⟩
  · rw [T_leaf h h1, List.mem_singleton] at hm
    have e : y = c := by injection hm
    rw [e]
    exact ⟨h1, chain_self c⟩
theorem T_ok {z : Sz} {D : Nat → Nat} (h : WF z D) : ∀ c, z.K c ≠ 0 → ∀ y u, (y, u) ∈ Tz z D c → (∀ l ∈ u, 1 ≤ l ∧ l ≤ 8) ∧ (z.B c = 1 → u = []) ∧ (z.B c ≠ 1 → D c + u.length ≤ 12) := by
  refine wf_ind h _ ?_
  intro c hk ih y u hm
  rcases h.k12 hk with h1 | h1
  · rw [T_inner h h1, gr_mem] at hm
    obtain ⟨l, hl, q, h2, h3⟩ := hm
    by_cases hc : ch z c l = 0
    · rw [Tc_0 hc] at h2; cases h2
    · rw [Tc_1 hc] at h2
      obtain ⟨a1, a2, a3⟩ := ih l hc q.1 q.2 h2
      have e : u = pre l q.2 := by injection h3
      have b := h.chp hc
      have hD := (h.inn h1).2.2.1
      have hB : z.B c ≠ 1 := by
        intro hB
        by_cases h0 : c = 0
        · subst h0; have := h.root.2.2.1; omega
        · obtain ⟨p, k, e1, e2, e3, e4, e5, e6, e7, e8⟩ := h.par h0 hk
          have := (e8 (by omega)).1
          omega
      refine ⟨?_, fun e => absurd e hB, fun _ => ?_⟩
      · intro x hx
        rw [e] at hx
        cases l with
        | zero => exact a1 x hx
        | succ l =>
          rcases List.mem_cons.mp hx with rfl | hx
          · exact ⟨by omega, by omega⟩
          · exact a1 x hx
      · rw [e]
        cases l with
        | zero =>
          have := a2 b.2.2.1
          show D c + q.2.length ≤ 12
          rw [this]; show D c + 0 ≤ 12; omega
        | succ l =>
          have := a3 (by omega)
          show D c + (q.2.length + 1) ≤ 12
          omega
  · rw [T_leaf h h1, List.mem_singleton] at hm
    have e : u = z.X (z.E c - 1) := by injection hm
    rw [e]
    refine ⟨(h.e.2.2.1 _).2, fun hB => ?_, fun hB => h.len h1 hB⟩
    by_cases h0 : c = 0
    · subst h0; have := h.root.1; omega
    · obtain ⟨p, k, e1, e2, e3, e4, e5, e6, e7, e8⟩ := h.par h0 hk
      exact (e8 (by omega)).2.2
theorem T0_ok {z : Sz} {D : Nat → Nat} (h : WF z D) {y : Nat} {u : List Nat} (hm : (y, u) ∈ Tz z D 0) : okw u ∧ u ≠ [] := by
  have h0 : z.K 0 ≠ 0 := by rw [h.root.1]; omega
  have h1 := T_ok h 0 h0 y u hm
  have h2 := h1.2.2 (by rw [h.root.2.2.1]; omega)
  refine ⟨⟨by omega, h1.1⟩, ?_⟩
  rw [T_inner h h.root.1, gr_mem] at hm
  obtain ⟨l, hl, q, h3, h4⟩ := hm
  have e : u = pre l q.2 := by injection h4
  cases l with
  | zero =>
    rw [Tc_0 h.ch00] at h3; cases h3
  | succ l =>
    rw [e]; intro e; cases e
def Wz (z : Sz) (D : Nat → Nat) (c : Nat) : Nat := sm (fun y => if z.K y = 2 ∧ c ∈ chain z D y then 1 else 0) 160
theorem T_len {z : Sz} {D : Nat → Nat} (h : WF z D) {c : Nat} (hk : z.K c ≠ 0) : (Tz z D c).length = Wz z D c := by
  have := br h (fun y => if z.K y = 2 then 1 else 0) (fun c => (Tz z D c).length) (by
    intro c hk
    show (Tz z D c).length = _
    rcases h.k12 hk with h1 | h1
    · rw [T_inner h h1, gr_len, if_neg (by omega), Nat.zero_add]
      refine sm_congr (fun l _ => ?_)
      by_cases hc : ch z c l = 0
      · rw [if_pos hc, Tc_0 hc]; rfl
      · rw [if_neg hc, Tc_1 hc]
    · rw [T_leaf h h1, if_pos h1, sm_z]
      · rfl
      intro l _
      exact if_pos (h.ch0 (by omega))) c hk
  show (Tz z D c).length = _
  rw [this, Wz]
  refine sm_congr (fun y _ => ?_)
  by_cases h2 : z.K y = 2
  · by_cases hm : c ∈ chain z D y
    · rw [if_pos ⟨by omega, hm⟩, if_pos h2, if_pos ⟨h2, hm⟩]
    · rw [if_neg (fun e => hm e.2), if_neg (fun e => hm e.2)]
  · have e2 : ¬ (z.K y = 2 ∧ c ∈ chain z D y) := fun e => h2 e.1
    rw [if_neg e2]
    simp [h2]
theorem Tc_len {z : Sz} {D : Nat → Nat} (h : WF z D) {c l : Nat} : (Tc z D c l).length = if ch z c l = 0 then 0 else Wz z D (ch z c l) := by
  by_cases hc : ch z c l = 0
  · rw [Tc_0 hc, if_pos hc]; rfl
  · rw [Tc_1 hc, if_neg hc, T_len h (h.chp hc).1]
theorem Wz_le (z : Sz) (D : Nat → Nat) (c : Nat) : Wz z D c ≤ 160 := by
  have : Wz z D c ≤ sm (fun _ => 1) 160 := sm_le (fun i _ => by split <;> omega)
  rw [sm_const] at this
  omega
theorem T_nodup {z : Sz} {D : Nat → Nat} (h : WF z D) : ∀ c, z.K c ≠ 0 → (Tz z D c).Pairwise (fun p q => p.1 ≠ q.1) := by
  refine wf_ind h _ ?_
  intro c hk ih
  rcases h.k12 hk with h1 | h1
  · rw [T_inner h h1]
    have hc1 : ∀ l p, p ∈ Tc z D c l → ch z c l ≠ 0 ∧ z.K p.1 ≠ 0 ∧ ch z c l ∈ chain z D p.1 := by
      intro l p hp
      by_cases hc : ch z c l = 0
      · rw [Tc_0 hc] at hp; cases hp
      · rw [Tc_1 hc] at hp
        have := T_in h _ (h.chp hc).1 p.1 p.2 hp
        exact ⟨hc, by omega, this.2⟩
    have : ∀ n, (gr (Tc z D c) n).Pairwise (fun p q => p.1 ≠ q.1) := by
      intro n
      induction n with
      | zero => exact List.Pairwise.nil
      | succ n ihn =>
        show (gr (Tc z D c) n ++ _).Pairwise _
        rw [List.pairwise_append]
        refine ⟨ihn, ?_, ?_⟩
        · rw [List.pairwise_map]
          by_cases hc : ch z c n = 0
          · rw [Tc_0 hc]; exact List.Pairwise.nil
          · rw [Tc_1 hc]; exact ih n hc
        · intro p hp q hq e
          obtain ⟨l, hl, p', h2, h3⟩ := gr_mem.mp hp
          obtain ⟨q', h4, h5⟩ := List.mem_map.mp hq
          have a1 := hc1 l p' h2
          have a2 := hc1 n q' h4
          have e1 : p'.1 = q'.1 := by rw [← h5, h3] at e; exact e
          rw [e1] at a1
          have := chain_l h a1.2.1 a1.1 a2.1 a1.2.2 a2.2.2
          omega
    exact this 9
  · rw [T_leaf h h1]
    exact List.pairwise_singleton _ _
/-! a word is found -/
def fnd (z : Sz) : Nat → Nat → List Nat → Nat
  | 0, _, _ => 0
  | f + 1, c, w => if z.K c = 2 then (if z.X (z.E c - 1) = w then c else 0) else if ch z c (hd0 w) = 0 then 0 else fnd z f (ch z c (hd0 w)) w.tail
def Fz (z : Sz) (D : Nat → Nat) (c : Nat) (w : List Nat) : Nat := fnd z (14 - D c) c w
theorem F_leaf {z : Sz} {D : Nat → Nat} (h : WF z D) {c : Nat} (hk : z.K c = 2) (w : List Nat) : Fz z D c w = if z.X (z.E c - 1) = w then c else 0 := by
  have := h.dp (c := c) (by omega)
  rw [Fz, show 14 - D c = (13 - D c) + 1 by omega, fnd, if_pos hk]
theorem F_inner {z : Sz} {D : Nat → Nat} (h : WF z D) {c : Nat} (hk : z.K c = 1) (w : List Nat) : Fz z D c w = if ch z c (hd0 w) = 0 then 0 else Fz z D (ch z c (hd0 w)) w.tail := by
  have := h.dp (c := c) (by omega)
  rw [Fz, show 14 - D c = (13 - D c) + 1 by omega, fnd, if_neg (by omega)]
  by_cases hc : ch z c (hd0 w) = 0
  · rw [if_pos hc, if_pos hc]
  · rw [if_neg hc, if_neg hc, Fz, (h.chp hc).2.2.2.2.2.2.1, show 14 - (D c + 1) = 13 - D c by omega]
theorem F_T {z : Sz} {D : Nat → Nat} (h : WF z D) : ∀ c, z.K c ≠ 0 → ∀ y u, (y, u) ∈ Tz z D c → Fz z D c u = y := by
  refine wf_ind h _ ?_
  intro c hk ih y u hm
  rcases h.k12 hk with h1 | h1
  · rw [T_inner h h1, gr_mem] at hm
    obtain ⟨l, hl, q, h2, h3⟩ := hm
    by_cases hc : ch z c l = 0
    · rw [Tc_0 hc] at h2; cases h2
    · rw [Tc_1 hc] at h2
      have a := ih l hc q.1 q.2 h2
      have e1 : u = pre l q.2 := by injection h3
      have e2 : y = q.1 := by injection h3
      have e3 : hd0 u = l ∧ u.tail = q.2 := by
        rw [e1]
        cases l with
        | zero =>
          have := (T_ok h _ (h.chp hc).1 q.1 q.2 h2).2.1 (h.chp hc).2.2.1
          rw [this]; exact ⟨rfl, rfl⟩
        | succ l => exact ⟨rfl, rfl⟩
      rw [F_inner h h1, e3.1, e3.2, if_neg hc, a, e2]
  · rw [T_leaf h h1, List.mem_singleton] at hm
    have e1 : u = z.X (z.E c - 1) := by injection hm
    have e2 : y = c := by injection hm
    rw [F_leaf h h1, if_pos e1.symm, e2]
theorem T_F {z : Sz} {D : Nat → Nat} (h : WF z D) : ∀ c, z.K c ≠ 0 → ∀ y w, (∀ l ∈ w, 1 ≤ l) → Fz z D c w = y → y ≠ 0 → (y, w) ∈ Tz z D c := by
  refine wf_ind h _ ?_
  intro c hk ih y w hw hf hy
  rcases h.k12 hk with h1 | h1
  · rw [F_inner h h1] at hf
    by_cases hc : ch z c (hd0 w) = 0
    · rw [if_pos hc] at hf; exact absurd hf.symm hy
    · rw [if_neg hc] at hf
      have a := ih _ hc y w.tail (fun l hl => hw l (List.mem_of_mem_tail hl)) hf hy
      rw [T_inner h h1, gr_mem]
      refine ⟨hd0 w, (h.chp hc).2.2.2.1, (y, w.tail), by rw [Tc_1 hc]; exact a, ?_⟩
      cases w with
      | nil => rfl
      | cons l r =>
        have := hw l List.mem_cons_self
        show (y, l :: r) = (y, pre l r)
        rw [pre_s this]
  · rw [F_leaf h h1] at hf
    by_cases e : z.X (z.E c - 1) = w
    · rw [if_pos e] at hf
      rw [T_leaf h h1, e, hf]
      exact List.mem_singleton.mpr rfl
    · rw [if_neg e] at hf; exact absurd hf.symm hy
/-- the words of two places in the list are different -/
theorem T_word_inj {z : Sz} {D : Nat → Nat} (h : WF z D) {i j : Nat} {p q : Nat × List Nat} (hi : (Tz z D 0)[i]? = some p) (hj : (Tz z D 0)[j]? = some q) (e : p.2 = q.2) : i = j := by
  have h0 : z.K 0 ≠ 0 := by rw [h.root.1]; omega
  have m1 : (p.1, p.2) ∈ Tz z D 0 := List.mem_of_getElem? hi
  have m2 : (q.1, q.2) ∈ Tz z D 0 := List.mem_of_getElem? hj
  have a1 := F_T h 0 h0 _ _ m1
  have a2 := F_T h 0 h0 _ _ m2
  rw [e] at a1
  have e1 : p.1 = q.1 := by rw [← a1, ← a2]
  have hn := List.pairwise_iff_getElem.mp (T_nodup h 0 h0)
  obtain ⟨b1, c1⟩ := List.getElem?_eq_some_iff.mp hi
  obtain ⟨b2, c2⟩ := List.getElem?_eq_some_iff.mp hj
  rcases Nat.lt_trichotomy i j with h3 | h3 | h3
  · exact absurd (by rw [c1, c2]; exact e1) (hn i j b1 b2 h3)
  · exact h3
  · exact absurd (by rw [c1, c2]; exact e1.symm) (hn j i b2 b1 h3)
