/-! children that move: the table when those by the letters below k have moved -/
abbrev toB (z : Sz) (c o k x : Nat) : Prop := o ≤ x ∧ x < o + k ∧ ch z c (x - o) ≠ 0
abbrev frB (z : Sz) (c k x : Nat) : Prop := z.O c ≤ x ∧ x < z.O c + k ∧ ch z c (x - z.O c) ≠ 0
/-- what was told of a cell is told of the cell to which it moves -/
def mvF (z : Sz) (c o k : Nat) (f : Nat → Nat) : Nat → Nat := fun x => if toB z c o k x then f (z.O c + (x - o)) else if frB z c k x then 0 else f x
/-- parents: c for the moved, the moved for their children -/
def mvP (z : Sz) (c o k : Nat) : Nat → Nat := fun x => if toB z c o k x then c + 1 else if frB z c k x then 0 else if 0 < z.P x ∧ frB z c k (z.P x - 1) then o + (z.P x - 1 - z.O c) + 1 else z.P x
def mvn (z : Sz) (c : Nat) : Nat → Nat
  | 0 => 0
  | k + 1 => mvn z c k + if ch z c k = 0 then 0 else 1
def mvS (z : Sz) (c o k : Nat) : Sz := (mvF z c o k z.K, mvP z c o k, mvF z c o k z.B, mvF z c o k z.O, mvF z c o k z.E, z.U, z.X, z.M + mvn z c k)
def mvT (z : Sz) (c o : Nat) : Sz := sO (mvS z c o 9) (fu (mvS z c o 9).O c o)
/-- there is room for the children -/
def Fit (z : Sz) (c o : Nat) : Prop := 0 < o ∧ ∀ l, l < 9 → ch z c l ≠ 0 → o + l < 160 ∧ z.K (o + l) = 0
theorem Fit.to {z : Sz} {c o k x : Nat} (hf : Fit z c o) (hk : k ≤ 9) (h : toB z c o k x) : z.K x = 0 ∧ x < 160 ∧ ∃ l, l < k ∧ x = o + l ∧ ch z c l ≠ 0 := by
  have := hf.2 (x - o) (by omega) h.2.2
  rw [show o + (x - o) = x by omega] at this
  exact ⟨this.2, this.1, x - o, by omega, by omega, h.2.2⟩
theorem frB_ch {z : Sz} {D : Nat → Nat} (h : WF z D) {c k x : Nat} (hx : frB z c k x) : ∃ l, l < k ∧ ch z c l = x ∧ x ≠ 0 := by
  have e := (h.chp hx.2.2).2.2.2.2.2.1
  rw [show z.O c + (x - z.O c) = x by omega] at e
  exact ⟨x - z.O c, by omega, e, by rw [← e]; exact hx.2.2⟩
theorem ch_frB {z : Sz} {D : Nat → Nat} (h : WF z D) {c k l : Nat} (hl : l < k) (hc : ch z c l ≠ 0) : frB z c k (ch z c l) := by
  have e := (h.chp hc).2.2.2.2.2.1
  refine ⟨by omega, by omega, ?_⟩
  rw [e, Nat.add_sub_cancel_left]; exact hc
theorem frB_9 {z : Sz} {D : Nat → Nat} (h : WF z D) {c x : Nat} (hx : x ≠ 0) (hk : z.K x ≠ 0) (hp : z.P x = c + 1) : frB z c 9 x := by
  obtain ⟨p, l, e1, e2, e3, e4, e5, e6, e7, e8⟩ := h.par hx hk
  have := h.ch_of hx hk hp e2
  rw [← this]
  exact ch_frB h e3 (by rw [this]; exact hx)
theorem mvF_to {z : Sz} {c o k x : Nat} {f : Nat → Nat} (h : toB z c o k x) : mvF z c o k f x = f (z.O c + (x - o)) := if_pos h
theorem mvF_fr {z : Sz} {c o k x : Nat} {f : Nat → Nat} (h1 : ¬ toB z c o k x) (h : frB z c k x) : mvF z c o k f x = 0 := by
  rw [mvF, if_neg h1, if_pos h]
theorem mvF_no {z : Sz} {c o k x : Nat} {f : Nat → Nat} (h1 : ¬ toB z c o k x) (h : ¬ frB z c k x) : mvF z c o k f x = f x := by
  rw [mvF, if_neg h1, if_neg h]
theorem toB_s {z : Sz} {c o k x : Nat} : toB z c o (k + 1) x ↔ toB z c o k x ∨ (x = o + k ∧ ch z c k ≠ 0) := by
  constructor
  · rintro ⟨h1, h2, h3⟩
    by_cases e : x = o + k
    · subst e
      rw [Nat.add_sub_cancel_left] at h3
      exact Or.inr ⟨rfl, h3⟩
    · exact Or.inl ⟨h1, by omega, h3⟩
  · rintro (⟨h1, h2, h3⟩ | ⟨rfl, h3⟩)
    · exact ⟨h1, by omega, h3⟩
    · exact ⟨by omega, by omega, by rw [Nat.add_sub_cancel_left]; exact h3⟩
theorem frB_s {z : Sz} {c k x : Nat} : frB z c (k + 1) x ↔ frB z c k x ∨ (x = z.O c + k ∧ ch z c k ≠ 0) := by
  constructor
  · rintro ⟨h1, h2, h3⟩
    by_cases e : x = z.O c + k
    · subst e
      rw [Nat.add_sub_cancel_left] at h3
      exact Or.inr ⟨rfl, h3⟩
    · exact Or.inl ⟨h1, by omega, h3⟩
  · rintro (⟨h1, h2, h3⟩ | ⟨rfl, h3⟩)
    · exact ⟨h1, by omega, h3⟩
    · exact ⟨by omega, by omega, by rw [Nat.add_sub_cancel_left]; exact h3⟩
theorem toB_0 {z : Sz} {c o x : Nat} : ¬ toB z c o 0 x := fun h => by have := h.1; have := h.2.1; omega
theorem frB_0 {z : Sz} {c x : Nat} : ¬ frB z c 0 x := fun h => by have := h.1; have := h.2.1; omega
theorem mvS_0 (z : Sz) (c o : Nat) : mvS z c o 0 = z := by
  have hF : ∀ f, mvF z c o 0 f = f := by
    intro f; funext x
    exact mvF_no toB_0 frB_0
  have hP : mvP z c o 0 = z.P := by
    funext x
    rw [mvP, if_neg toB_0, if_neg frB_0, if_neg (fun a => frB_0 a.2)]
  show (mvF z c o 0 z.K, mvP z c o 0, mvF z c o 0 z.B, mvF z c o 0 z.O, mvF z c o 0 z.E, z.U, z.X, z.M + 0) = z
  rw [hF, hF, hF, hF, hP]
  rfl
theorem mvS_n {z : Sz} {c o k : Nat} (hc : ch z c k = 0) : mvS z c o (k + 1) = mvS z c o k := by
  have e1 : ∀ x, toB z c o (k + 1) x = toB z c o k x := fun x => propext ⟨fun a => (toB_s.mp a).elim id (fun b => absurd hc b.2), fun a => toB_s.mpr (Or.inl a)⟩
  have e2 : ∀ x, frB z c (k + 1) x = frB z c k x := fun x => propext ⟨fun a => (frB_s.mp a).elim id (fun b => absurd hc b.2), fun a => frB_s.mpr (Or.inl a)⟩
  have hF : ∀ f, mvF z c o (k + 1) f = mvF z c o k f := by
    intro f; funext x
    rw [mvF, mvF]
    by_cases h1 : toB z c o k x
    · rw [if_pos h1, if_pos (by rw [e1]; exact h1)]
    · rw [if_neg h1, if_neg (by rw [e1]; exact h1)]
      by_cases h2 : frB z c k x
      · rw [if_pos h2, if_pos (by rw [e2]; exact h2)]
      · rw [if_neg h2, if_neg (by rw [e2]; exact h2)]
  have hP : mvP z c o (k + 1) = mvP z c o k := by
    funext x
    rw [mvP, mvP]
    by_cases h1 : toB z c o k x
    · rw [if_pos h1, if_pos (by rw [e1]; exact h1)]
    · rw [if_neg h1, if_neg (by rw [e1]; exact h1)]
      by_cases h2 : frB z c k x
      · rw [if_pos h2, if_pos (by rw [e2]; exact h2)]
      · rw [if_neg h2, if_neg (by rw [e2]; exact h2)]
        by_cases h3 : 0 < z.P x ∧ frB z c k (z.P x - 1)
        · rw [if_pos h3, if_pos ⟨h3.1, by rw [e2]; exact h3.2⟩]
        · rw [if_neg h3, if_neg (fun a => h3 ⟨a.1, by rw [← e2]; exact a.2⟩)]
  have hm : mvn z c (k + 1) = mvn z c k := by rw [mvn, if_pos hc, Nat.add_zero]
  rw [mvS, mvS, hF, hF, hF, hF, hP, hm]
/-- one more has moved: rows but the parents' -/
theorem mvF_s {z : Sz} {D : Nat → Nat} (h : WF z D) {c o k : Nat} (hf : Fit z c o) (hk : k < 9) (hc : ch z c k ≠ 0) (f : Nat → Nat) : mvF z c o (k + 1) f = fu (fu (mvF z c o k f) (o + k) (mvF z c o k f (z.O c + k))) (z.O c + k) 0 := by
  have hch := h.chp hc
  have hfit := hf.2 k hk hc
  have hne : z.O c + k ≠ o + k := by
    intro e; rw [← e, ← hch.2.2.2.2.2.1] at hfit; exact hch.1 hfit.2
  have hfr : ¬ toB z c o k (z.O c + k) := by
    intro a
    have := (hf.to (by omega) a).1
    rw [← hch.2.2.2.2.2.1] at this; exact hch.1 this
  have hfk : ¬ frB z c k (z.O c + k) := fun a => by have := a.2.1; omega
  funext x
  by_cases e1 : x = z.O c + k
  · rw [e1, fu_eq]
    have h1 : ¬ toB z c o (k + 1) (z.O c + k) := fun a => (toB_s.mp a).elim hfr (fun b => hne b.1)
    rw [mvF_fr h1 (frB_s.mpr (Or.inr ⟨rfl, hc⟩))]
  · rw [fu_ne _ _ e1]
    by_cases e2 : x = o + k
    · rw [e2, fu_eq, mvF_to (toB_s.mpr (Or.inr ⟨rfl, hc⟩)), Nat.add_sub_cancel_left, mvF_no hfr hfk]
    · rw [fu_ne _ _ e2]
      by_cases h1 : toB z c o k x
      · rw [mvF_to h1, mvF_to (toB_s.mpr (Or.inl h1))]
      · have h1' : ¬ toB z c o (k + 1) x := fun a => (toB_s.mp a).elim h1 (fun b => e2 b.1)
        by_cases h2 : frB z c k x
        · rw [mvF_fr h1 h2, mvF_fr h1' (frB_s.mpr (Or.inl h2))]
        · rw [mvF_no h1 h2, mvF_no h1' (fun a => (frB_s.mp a).elim h2 (fun b => e1 b.1))]
/-- the children of one cell get another parent -/
def hnd (f : Nat → Nat) (a b : Nat) : Nat → Nat := fun x => if f x = a + 1 then b + 1 else f x
theorem mvP_s {z : Sz} {D : Nat → Nat} (h : WF z D) {c o k : Nat} (hf : Fit z c o) (hk : k < 9) (hc : ch z c k ≠ 0) : mvP z c o (k + 1) = fu (fu (hnd (mvP z c o k) (z.O c + k) (o + k)) (o + k) (c + 1)) (z.O c + k) 0 := by
  have hch := h.chp hc
  have hfit := hf.2 k hk hc
  have hcK : z.K c = 1 := hch.2.2.2.2.1
  have hne : z.O c + k ≠ o + k := by
    intro e; rw [← e, ← hch.2.2.2.2.2.1] at hfit; exact hch.1 hfit.2
  have hfr : ¬ toB z c o k (z.O c + k) := by
    intro a
    have := (hf.to (by omega) a).1
    rw [← hch.2.2.2.2.2.1] at this; exact hch.1 this
  have hcf : c ≠ z.O c + k := by
    intro e
    have := hch.2.2.2.2.2.2.1
    rw [hch.2.2.2.2.2.1, ← e] at this; omega
  have hcn : ¬ frB z c 9 c := by
    intro a
    obtain ⟨l, hl, e, -⟩ := frB_ch h a
    have := (h.chp (c := c) (l := l) (by rw [e]; exact fun b => (frB_ch h a).choose_spec.2.2 b)).2.2.2.2.2.2.1
    rw [e] at this; omega
  have hmono : ∀ x, frB z c k x → frB z c 9 x := fun x a => ⟨a.1, by have := a.2.1; omega, a.2.2⟩
  funext x
  by_cases e1 : x = z.O c + k
  · rw [e1, fu_eq]
    have h1 : ¬ toB z c o (k + 1) (z.O c + k) := fun a => (toB_s.mp a).elim hfr (fun b => hne b.1)
    rw [mvP, if_neg h1, if_pos (frB_s.mpr (Or.inr ⟨rfl, hc⟩))]
  · rw [fu_ne _ _ e1]
    by_cases e2 : x = o + k
    · rw [e2, fu_eq, mvP, if_pos (toB_s.mpr (Or.inr ⟨rfl, hc⟩))]
    · rw [fu_ne _ _ e2, hnd, mvP, mvP]
      by_cases h1 : toB z c o k x
      · rw [if_pos h1, if_pos (toB_s.mpr (Or.inl h1)), if_neg (by omega)]
      · have h1' : ¬ toB z c o (k + 1) x := fun a => (toB_s.mp a).elim h1 (fun b => e2 b.1)
        rw [if_neg h1, if_neg h1']
        by_cases h2 : frB z c k x
        · rw [if_pos h2, if_pos (frB_s.mpr (Or.inl h2)), if_neg (by omega)]
        · rw [if_neg h2, if_neg (fun a => (frB_s.mp a).elim h2 (fun b => e1 b.1))]
          by_cases h3 : 0 < z.P x ∧ frB z c k (z.P x - 1)
          · rw [if_pos h3, if_pos ⟨h3.1, frB_s.mpr (Or.inl h3.2)⟩]
            have hno : ¬ o + (z.P x - 1 - z.O c) + 1 = z.O c + k + 1 := by
              intro a
              have h4 := hf.2 (z.P x - 1 - z.O c) (by have := h3.2.2.1; have := h3.2.1; omega) h3.2.2.2
              rw [show o + (z.P x - 1 - z.O c) = z.O c + k by omega, ← hch.2.2.2.2.2.1] at h4
              exact hch.1 h4.2
            rw [if_neg hno]
          · rw [if_neg h3]
            by_cases h4 : z.P x = z.O c + k + 1
            · rw [if_pos h4, if_pos ⟨by omega, frB_s.mpr (Or.inr ⟨by omega, hc⟩)⟩]
              omega
            · rw [if_neg h4, if_neg (fun a => (frB_s.mp a.2).elim (fun b => h3 ⟨a.1, b⟩) (fun b => h4 (by omega)))]
/-- only the cells at a moving cell's own offset are its children -/
theorem mvP_own {z : Sz} {D : Nat → Nat} (h : WF z D) {c o k : Nat} (hf : Fit z c o) (hk : k < 9) (hc : ch z c k ≠ 0) {x : Nat} (hx : mvP z c o k x = z.O c + k + 1) : z.P x = z.O c + k + 1 ∧ z.K x ≠ 0 ∧ z.O (z.O c + k) ≤ x ∧ x < z.O (z.O c + k) + 9 ∧ 0 < z.O (z.O c + k) ∧ ¬ toB z c o k x ∧ ¬ frB z c k x := by
  have hch := h.chp hc
  have hfit := hf.2 k hk hc
  rw [mvP] at hx
  by_cases h1 : toB z c o k x
  · rw [if_pos h1] at hx
    have e := hch.2.2.2.2.2.2.1
    rw [hch.2.2.2.2.2.1, show z.O c + k = c by omega] at e
    omega
  · rw [if_neg h1] at hx
    by_cases h2 : frB z c k x
    · rw [if_pos h2] at hx; omega
    · rw [if_neg h2] at hx
      by_cases h3 : 0 < z.P x ∧ frB z c k (z.P x - 1)
      · rw [if_pos h3] at hx
        have h4 := hf.2 (z.P x - 1 - z.O c) (by have := h3.2.2.1; have := h3.2.1; omega) h3.2.2.2
        rw [show o + (z.P x - 1 - z.O c) = z.O c + k by omega, ← hch.2.2.2.2.2.1] at h4
        exact absurd h4.2 hch.1
      · rw [if_neg h3] at hx
        have hk0 : z.K x ≠ 0 := by
          intro a
          have := (h.free a).1
          omega
        have hx0 : x ≠ 0 := by
          intro a
          have := h.root.2.1
          rw [a] at hx; omega
        obtain ⟨p, l, e1, e2, e3, e4, e5, e6, e7, e8⟩ := h.par hx0 hk0
        have : p = z.O c + k := by omega
        rw [← this]
        exact ⟨by omega, hk0, by omega, by omega, e5, h1, h2⟩
