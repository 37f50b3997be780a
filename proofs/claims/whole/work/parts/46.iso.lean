/-! a table with other numbers for its cells -/
def Iso (φ ψ : Nat → Nat) (z z' : Sz) : Prop :=
  φ 0 = 0 ∧
  (∀ y, z.K y ≠ 0 → ψ (φ y) = y ∧ z'.K (φ y) = z.K y ∧ z'.B (φ y) = z.B y ∧ z'.E (φ y) = z.E y ∧ (∀ p, z.P y = p + 1 → z'.P (φ y) = φ p + 1) ∧ (z.P y = 0 → z'.P (φ y) = 0)) ∧
  (∀ x, z'.K x ≠ 0 → ∃ y, z.K y ≠ 0 ∧ x = φ y) ∧
  (∀ a l, ch z a l ≠ 0 → 0 < z'.O (φ a) ∧ z'.O (φ a) + l = φ (ch z a l)) ∧
  (∀ x, z'.K x = 0 → z'.P x = 0 ∧ z'.B x = 0 ∧ z'.O x = 0 ∧ z'.E x = 0) ∧
  (∀ x, 160 ≤ x → z'.K x = 0) ∧
  (∀ y, z.K y = 2 → z'.O (φ y) = 0) ∧
  (∀ y, z.K y = 1 → z'.O (φ y) < 160 ∧ (0 < z'.O (φ y) → 0 < z.O y)) ∧
  z'.U = z.U ∧ z'.X = z.X
theorem iso_inj {φ ψ : Nat → Nat} {z z' : Sz} (hi : Iso φ ψ z z') {a b : Nat} (ha : z.K a ≠ 0) (hb : z.K b ≠ 0) (e : φ a = φ b) : a = b := by
  rw [← (hi.2.1 a ha).1, ← (hi.2.1 b hb).1, e]
theorem iso_0 {φ ψ : Nat → Nat} {z z' : Sz} {D : Nat → Nat} (h : WF z D) (hi : Iso φ ψ z z') {a : Nat} (ha : z.K a ≠ 0) : φ a = 0 ↔ a = 0 := by
  constructor
  · intro e
    exact iso_inj hi ha (by rw [h.root.1]; omega) (by rw [e, hi.1])
  · intro e; rw [e, hi.1]
theorem iso_ch {φ ψ : Nat → Nat} {z z' : Sz} {D : Nat → Nat} (h : WF z D) (hi : Iso φ ψ z z') {a : Nat} (ha : z.K a ≠ 0) (l : Nat) : ch z' (φ a) l = if ch z a l = 0 then 0 else φ (ch z a l) := by
  by_cases hc : ch z a l = 0
  · rw [if_pos hc]
    by_cases hx : ch z' (φ a) l = 0
    · exact hx
    · exfalso
      obtain ⟨h1, h2, h3, h4, h5⟩ := ch_0 (z := z') (c := φ a) (l := l) (by omega)
      obtain ⟨y, hy, e⟩ := hi.2.2.1 _ (show z'.K (z'.O (φ a) + l) ≠ 0 by omega)
      have hy1 := hi.2.1 y hy
      by_cases hp : z.P y = 0
      · have := hy1.2.2.2.2.2 hp
        rw [← e, h5] at this; omega
      · have hy0 : y ≠ 0 := by
          intro b; subst b; exact hp h.root.2.1
        obtain ⟨p, k, q1, q2, q3, q4, q5, q6, q7, q8⟩ := h.par hy0 hy
        have e2 := hy1.2.2.2.2.1 p q1
        rw [← e, h5] at e2
        have e3 : a = p := iso_inj hi ha (by omega) (by omega)
        subst e3
        have e4 := h.ch_of hy0 hy q1 q2
        have e5 := (hi.2.2.2.1 a k (by rw [e4]; exact hy0)).2
        rw [e4, ← e] at e5
        have : k = l := by omega
        subst this
        rw [e4] at hc; exact hy0 hc
  · rw [if_neg hc]
    have h1 := h.chp hc
    have h2 := hi.2.2.2.1 a l hc
    have h3 := hi.2.1 _ h1.1
    rw [ch_eq h2.1, h2.2]
    · rw [h2.2]
      by_cases e : φ (ch z a l) < 160
      · exact e
      · have := hi.2.2.2.2.2.1 _ (Nat.le_of_not_lt e)
        rw [h3.2.1] at this; exact absurd this h1.1
    · rw [h2.2, h3.2.1]; omega
    · rw [h2.2]; exact h3.2.2.2.2.1 a h1.2.1
/-- sums over the cells of both -/
theorem iso_sum {φ ψ : Nat → Nat} {z z' : Sz} {D : Nat → Nat} (h : WF z D) (hi : Iso φ ψ z z') {F G : Nat → Nat} (hF : ∀ x, z'.K x = 0 → F x = 0) (hG : ∀ y, z.K y = 0 → G y = 0) (he : ∀ y, z.K y ≠ 0 → F (φ y) = G y) : sm F 160 = sm G 160 := by
  have e1 : ∀ x, x < 160 → F x = sm (fun y => if z.K y ≠ 0 ∧ φ y = x then G y else 0) 160 := by
    intro x hx
    by_cases hk : z'.K x = 0
    · rw [hF x hk, sm_z]
      intro y hy
      refine if_neg (fun a => ?_)
      have := (hi.2.1 y a.1).2.1
      rw [a.2, hk] at this
      exact a.1 this.symm
    · obtain ⟨y, hy, rfl⟩ := hi.2.2.1 x hk
      rw [sm_one (k := y) (h.lt hy), if_pos ⟨hy, rfl⟩, he y hy]
      intro k _ hky
      exact if_neg (fun a => hky (iso_inj hi a.1 hy a.2))
  have e2 : ∀ y, y < 160 → G y = sm (fun x => if z.K y ≠ 0 ∧ φ y = x then G y else 0) 160 := by
    intro y hy
    by_cases hk : z.K y = 0
    · rw [hG y hk, sm_z]
      intro x _
      exact if_neg (fun a => a.1 hk)
    · have hx : φ y < 160 := by
        by_cases e : φ y < 160
        · exact e
        · have := hi.2.2.2.2.2.1 _ (Nat.le_of_not_lt e)
          rw [(hi.2.1 y hk).2.1] at this; exact absurd this hk
      rw [sm_one (k := φ y) hx (fun k _ hk2 => if_neg (fun a => hk2 a.2.symm)), if_pos ⟨hk, rfl⟩]
  rw [sm_congr e1, sm_congr e2, sm_swap]
theorem iso_wf {φ ψ : Nat → Nat} {z z' : Sz} {D : Nat → Nat} (h : WF z D) (hi : Iso φ ψ z z') : WF z' (fun x => D (ψ x)) := by
  have h0 : z.K 0 ≠ 0 := by rw [h.root.1]; omega
  have r := hi.2.1 0 h0
  rw [hi.1] at r
  have hU := hi.2.2.2.2.2.2.2.2.1
  have hX := hi.2.2.2.2.2.2.2.2.2
  refine ⟨⟨by rw [r.2.1]; exact h.root.1, r.2.2.2.2.2 h.root.2.1, by rw [r.2.2.1]; exact h.root.2.2.1, by show D (ψ 0) = 0; rw [r.1]; exact h.root.2.2.2⟩, hi.2.2.2.2.2.1, hi.2.2.2.2.1, ?_, ?_, ?_, ?_, ?_, ?_, ?_⟩
  · intro x hx0 hx
    obtain ⟨y, hy, rfl⟩ := hi.2.2.1 x hx
    have hy1 := hi.2.1 y hy
    have hy0 : y ≠ 0 := fun e => hx0 (by rw [e, hi.1])
    obtain ⟨p, k, q1, q2, q3, q4, q5, q6, q7, q8⟩ := h.par hy0 hy
    have hp := hi.2.1 p (by omega)
    have e4 := h.ch_of hy0 hy q1 q2
    have e5 := hi.2.2.2.1 p k (by rw [e4]; exact hy0)
    rw [e4] at e5
    refine ⟨φ p, k, hy1.2.2.2.2.1 p q1, by rw [hy1.2.2.1, q2], q3, by rw [hp.2.1, q4], e5.1, e5.2.symm, ?_, ?_⟩
    · show D (ψ (φ y)) = D (ψ (φ p)) + 1
      rw [hy1.1, hp.1, q7]
    · intro e
      have := q8 e
      refine ⟨by rw [hy1.2.1]; exact this.1, fun b => this.2.1 ((iso_0 h hi (by omega)).mp b), ?_⟩
      rw [hX, hy1.2.2.2.1]; exact this.2.2
  · intro x hx
    obtain ⟨y, hy, rfl⟩ := hi.2.2.1 x (by omega)
    have hy1 := hi.2.1 y hy
    rw [hy1.2.1] at hx
    obtain ⟨-, e, he, h40, hu⟩ := h.leaf hx
    exact ⟨hi.2.2.2.2.2.2.1 y hx, e, by rw [hy1.2.2.2.1, he], h40, by rw [hU]; exact hu⟩
  · intro x hx
    obtain ⟨y, hy, rfl⟩ := hi.2.2.1 x (by omega)
    have hy1 := hi.2.1 y hy
    rw [hy1.2.1] at hx
    have hin := h.inn hx
    have h8 := hi.2.2.2.2.2.2.2.1 y hx
    refine ⟨by rw [hy1.2.2.2.1]; exact hin.1, h8.1, by show D (ψ (φ y)) ≤ 11; rw [hy1.1]; exact hin.2.2.1, fun hO => ?_⟩
    obtain ⟨l, hl, hc⟩ := hin.2.2.2 (h8.2 hO)
    refine ⟨l, hl, ?_⟩
    rw [iso_ch h hi hy, if_neg hc]
    exact fun b => hc ((iso_0 h hi (h.chp hc).1).mp b)
  · intro x
    by_cases hx : z'.K x = 0
    · omega
    · obtain ⟨y, hy, rfl⟩ := hi.2.2.1 x hx
      rw [(hi.2.1 y hy).2.1]; exact h.k3 y
  · intro x hx hB
    obtain ⟨y, hy, rfl⟩ := hi.2.2.1 x (by omega)
    have hy1 := hi.2.1 y hy
    rw [hy1.2.1] at hx
    rw [hy1.2.2.1] at hB
    show D (ψ (φ y)) + _ ≤ 12
    rw [hy1.1, hX, hy1.2.2.2.1]
    exact h.len hx hB
  · rw [hU, hX]; exact h.e
  · intro p
    rw [hU, h.uses p]
    refine (iso_sum h hi (F := fun c => if z'.K c = 2 ∧ z'.E c = p + 1 then 1 else 0) (G := fun c => if z.K c = 2 ∧ z.E c = p + 1 then 1 else 0) ?_ ?_ ?_).symm
    · intro x hx; exact if_neg (fun a => by omega)
    · intro x hx; exact if_neg (fun a => by omega)
    · intro y hy
      have hy1 := hi.2.1 y hy
      show (if z'.K (φ y) = 2 ∧ z'.E (φ y) = p + 1 then 1 else 0) = _
      rw [hy1.2.1, hy1.2.2.2.1]
theorem gr_map (φ : Nat → Nat) {g g' : Nat → List (Nat × List Nat)} : ∀ {n : Nat}, (∀ l, l < n → g' l = (g l).map (fun p => (φ p.1, p.2))) → gr g' n = (gr g n).map (fun p => (φ p.1, p.2))
  | 0, _ => rfl
  | n + 1, h => by
    show gr g' n ++ _ = (gr g n ++ _).map _
    rw [gr_map φ (fun l hl => h l (by omega)), h n (by omega), List.map_append, List.map_map, List.map_map]
    rfl
theorem iso_T {φ ψ : Nat → Nat} {z z' : Sz} {D : Nat → Nat} (h : WF z D) (hi : Iso φ ψ z z') : ∀ c, z.K c ≠ 0 → Tz z' (fun x => D (ψ x)) (φ c) = (Tz z D c).map (fun p => (φ p.1, p.2)) := by
  have h' := iso_wf h hi
  refine wf_ind h _ ?_
  intro c hk ih
  have hc1 := hi.2.1 c hk
  rcases h.k12 hk with h1 | h1
  · rw [T_inner h' (by rw [hc1.2.1]; exact h1), T_inner h h1]
    refine gr_map φ (fun l _ => ?_)
    rw [Tc, iso_ch h hi hk]
    by_cases hc : ch z c l = 0
    · rw [if_pos hc, if_pos rfl, Tc_0 hc]; rfl
    · rw [if_neg hc, if_neg (fun b => hc ((iso_0 h hi (h.chp hc).1).mp b)), Tc_1 hc]
      exact ih l hc
  · rw [T_leaf h' (by rw [hc1.2.1]; exact h1), T_leaf h h1, hc1.2.2.2.1, hi.2.2.2.2.2.2.2.2.2]
    rfl
theorem iso_W {φ ψ : Nat → Nat} {z z' : Sz} {D : Nat → Nat} (h : WF z D) (hi : Iso φ ψ z z') {c : Nat} (hk : z.K c ≠ 0) : Wz z' (fun x => D (ψ x)) (φ c) = Wz z D c := by
  have h' := iso_wf h hi
  have hc1 := hi.2.1 c hk
  rw [← T_len h hk, ← T_len h' (by rw [hc1.2.1]; exact hk), iso_T h hi c hk, List.length_map]
theorem Wz_free {z : Sz} {D : Nat → Nat} (h : WF z D) {c : Nat} (hk : z.K c = 0) : Wz z D c = 0 := by
  refine sm_z (fun y _ => if_neg (fun a => ?_))
  exact (chain_all h y (by omega) c a.2).1 hk
/-! moved children are such a table -/
def mph (z : Sz) (c o : Nat) : Nat → Nat := fun x => if frB z c 9 x then o + (x - z.O c) else x
def mps (z : Sz) (c o : Nat) : Nat → Nat := fun x => if toB z c o 9 x then z.O c + (x - o) else x
theorem mv_iso {z : Sz} {D : Nat → Nat} (h : WF z D) {c o : Nat} (hcK : z.K c = 1) (hf : Fit z c o) (hO : 0 < z.O c) (ho : o < 160) : Iso (mph z c o) (mps z c o) z (mvT z c o) := by
  have h0 : z.K 0 ≠ 0 := by rw [h.root.1]; omega
  have hcn : ¬ frB z c 9 c := by
    intro a
    obtain ⟨l, hl, e, hne⟩ := frB_ch h a
    have := (h.chp (c := c) (l := l) (by rw [e]; exact hne)).2.2.2.2.2.2.1
    rw [e] at this; omega
  have hct : ¬ toB z c o 9 c := fun a => by have := (hf.to (Nat.le_refl 9) a).1; omega
  have hut : ∀ y, z.K y ≠ 0 → ¬ toB z c o 9 y := fun y hy a => hy (hf.to (Nat.le_refl 9) a).1
  have hfk : ∀ x, frB z c 9 x → z.K x ≠ 0 ∧ z.P x = c + 1 ∧ z.O c ≤ x ∧ x < z.O c + 9 ∧ ch z c (x - z.O c) = x := by
    intro x hx
    have := h.chp hx.2.2
    rw [this.2.2.2.2.2.1, show z.O c + (x - z.O c) = x by have := hx.1; omega] at this
    refine ⟨this.1, this.2.1, hx.1, hx.2.1, ?_⟩
    rw [(h.chp hx.2.2).2.2.2.2.2.1]; have := hx.1; omega
  have hto : ∀ x, frB z c 9 x → toB z c o 9 (o + (x - z.O c)) := by
    intro x hx
    refine ⟨by omega, by have := hx.1; have := hx.2.1; omega, ?_⟩
    rw [Nat.add_sub_cancel_left]; exact hx.2.2
  have hback : ∀ x, toB z c o 9 x → frB z c 9 (z.O c + (x - o)) := by
    intro x hx
    refine ⟨by omega, by have := hx.1; have := hx.2.1; omega, ?_⟩
    rw [Nat.add_sub_cancel_left]; exact hx.2.2
  -- the rows at the new number of a cell
  have hF : ∀ (f : Nat → Nat) y, z.K y ≠ 0 → mvF z c o 9 f (mph z c o y) = f y := by
    intro f y hy
    rw [mph]
    by_cases e : frB z c 9 y
    · rw [if_pos e, mvF_to (hto y e), Nat.add_sub_cancel_left]
      congr 1
      have := e.1; omega
    · rw [if_neg e, mvF_no (hut y hy) e]
  have hsurj : ∀ x, mvF z c o 9 z.K x ≠ 0 → ∃ y, z.K y ≠ 0 ∧ x = mph z c o y := by
    intro x hx
    by_cases e : toB z c o 9 x
    · refine ⟨z.O c + (x - o), (hfk _ (hback x e)).1, ?_⟩
      rw [mph, if_pos (hback x e), Nat.add_sub_cancel_left]
      have := e.1; omega
    · by_cases e2 : frB z c 9 x
      · rw [mvF_fr e e2] at hx; exact absurd rfl hx
      · rw [mvF_no e e2] at hx
        exact ⟨x, hx, by rw [mph, if_neg e2]⟩
  have hcc : mph z c o c = c := by rw [mph, if_neg hcn]
  have hOv : ∀ y, z.K y ≠ 0 → (mvT z c o).O (mph z c o y) = if y = c then o else z.O y := by
    intro y hy
    show fu (mvF z c o 9 z.O) c o (mph z c o y) = _
    by_cases e : y = c
    · rw [if_pos e, e, hcc, fu_eq]
    · rw [if_neg e]
      have : mph z c o y ≠ c := by
        rw [mph]
        by_cases e2 : frB z c 9 y
        · rw [if_pos e2]
          intro b
          have := (hf.to (Nat.le_refl 9) (hto y e2)).1
          rw [b] at this; omega
        · rw [if_neg e2]; exact e
      rw [fu_ne _ _ this, hF _ _ hy]
  have hP : ∀ y, z.K y ≠ 0 → (∀ p, z.P y = p + 1 → mvP z c o 9 (mph z c o y) = mph z c o p + 1) ∧ (z.P y = 0 → mvP z c o 9 (mph z c o y) = 0) := by
    intro y hy
    by_cases e : frB z c 9 y
    · have h2 := hfk y e
      refine ⟨fun p hp => ?_, fun hp => by omega⟩
      have : p = c := by omega
      rw [this, hcc, mph, if_pos e, mvP, if_pos (hto y e)]
    · have hv : mph z c o y = y := by rw [mph, if_neg e]
      rw [hv]
      refine ⟨fun p hp => ?_, fun hp => ?_⟩
      · rw [mvP, if_neg (hut y hy), if_neg e, mph]
        by_cases e2 : frB z c 9 p
        · rw [if_pos e2, if_pos ⟨by omega, by rw [hp, Nat.add_sub_cancel]; exact e2⟩, hp, Nat.add_sub_cancel]
        · rw [if_neg e2, if_neg (fun a => e2 (by have := a.2; rw [hp, Nat.add_sub_cancel] at this; exact this)), hp]
      · rw [mvP, if_neg (hut y hy), if_neg e, if_neg (fun a => by omega), hp]
  refine ⟨?_, ?_, hsurj, ?_, ?_, ?_, ?_, ?_, rfl, rfl⟩
  · rw [mph, if_neg]
    intro a
    have := (hfk 0 a).2.1
    rw [h.root.2.1] at this; omega
  · intro y hy
    refine ⟨?_, hF _ y hy, hF _ y hy, hF _ y hy, (hP y hy).1, (hP y hy).2⟩
    rw [mph]
    by_cases e : frB z c 9 y
    · rw [if_pos e, mps, if_pos (hto y e), Nat.add_sub_cancel_left]
      have := e.1; omega
    · rw [if_neg e, mps, if_neg (hut y hy)]
  · intro a l hl
    have h1 := h.chp hl
    rw [hOv a (by omega)]
    by_cases e : a = c
    · rw [if_pos e]
      subst e
      refine ⟨hf.1, ?_⟩
      rw [mph, if_pos (ch_frB h h1.2.2.2.1 hl), h1.2.2.2.2.2.1, Nat.add_sub_cancel_left]
    · rw [if_neg e]
      refine ⟨h1.2.2.2.2.2.2.2.2, ?_⟩
      rw [mph, if_neg, h1.2.2.2.2.2.1]
      intro a2
      have := (hfk _ a2).2.1
      rw [h1.2.1] at this; omega
  · intro x hx
    have hx' : mvF z c o 9 z.K x = 0 := hx
    have hnt : ¬ toB z c o 9 x := by
      intro a
      rw [mvF_to a] at hx'
      exact (hfk _ (hback x a)).1 hx'
    show mvP z c o 9 x = 0 ∧ mvF z c o 9 z.B x = 0 ∧ fu (mvF z c o 9 z.O) c o x = 0 ∧ mvF z c o 9 z.E x = 0
    have hxc : x ≠ c := by
      intro b
      rw [b, mvF_no hct hcn] at hx'; omega
    by_cases e2 : frB z c 9 x
    · rw [fu_ne _ _ hxc, mvF_fr hnt e2, mvF_fr hnt e2, mvF_fr hnt e2, mvP, if_neg hnt, if_pos e2]
      exact ⟨rfl, rfl, rfl, rfl⟩
    · rw [mvF_no hnt e2] at hx'
      have h3 := h.free hx'
      rw [fu_ne _ _ hxc, mvF_no hnt e2, mvF_no hnt e2, mvF_no hnt e2, mvP, if_neg hnt, if_neg e2, if_neg (fun a => by omega)]
      exact ⟨h3.1, h3.2.1, h3.2.2.1, h3.2.2.2⟩
  · intro x hx
    show mvF z c o 9 z.K x = 0
    by_cases e : toB z c o 9 x
    · have := (hf.to (Nat.le_refl 9) e).2.1
      omega
    · by_cases e2 : frB z c 9 x
      · rw [mvF_fr e e2]
      · rw [mvF_no e e2]
        exact h.2.1 x hx
  · intro y hy
    rw [hOv y (by omega), if_neg (by intro b; subst b; omega)]
    exact (h.leaf hy).1
  · intro y hy
    rw [hOv y (by omega)]
    by_cases e : y = c
    · rw [if_pos e, e]; exact ⟨ho, fun _ => hO⟩
    · rw [if_neg e]; exact ⟨(h.inn hy).2.1, id⟩
/-- masks and counts move along -/
theorem mv_msk {z : Sz} {D : Nat → Nat} (h : WF z D) {c o : Nat} (hcK : z.K c = 1) (hf : Fit z c o) (hO : 0 < z.O c) (ho : o < 160) : ∀ x, x < 160 → mvF z c o 9 (fun x => msk z x 9) x = msk (mvT z c o) x 9 := by
  have hi := mv_iso h hcK hf hO ho
  have h' := iso_wf h hi
  have hm0 : ∀ (z : Sz) (x n : Nat), (∀ l, ch z x l = 0) → msk z x n = 0 := by
    intro z x n hc
    induction n with
    | zero => rfl
    | succ n ih => rw [msk, ih, if_pos (hc n)]
  have hm1 : ∀ (z z' : Sz) (x x' n : Nat), (∀ l, ch z x l = 0 ↔ ch z' x' l = 0) → msk z x n = msk z' x' n := by
    intro z z' x x' n hc
    induction n with
    | zero => rfl
    | succ n ih =>
      rw [msk, msk, ih]
      by_cases e : ch z x n = 0
      · rw [if_pos e, if_pos ((hc n).mp e)]
      · rw [if_neg e, if_neg (fun b => e ((hc n).mpr b))]
  intro x hx
  by_cases hk : (mvT z c o).K x = 0
  · rw [hm0 _ x 9 (fun l => h'.ch0 (by omega))]
    have hk' : mvF z c o 9 z.K x = 0 := hk
    by_cases e : toB z c o 9 x
    · rw [mvF_to e] at hk' ⊢
      exact hm0 _ _ _ (fun l => h.ch0 (by omega))
    · by_cases e2 : frB z c 9 x
      · exact mvF_fr e e2
      · rw [mvF_no e e2] at hk' ⊢
        exact hm0 _ _ _ (fun l => h.ch0 (by omega))
  · obtain ⟨y, hy, rfl⟩ := hi.2.2.1 x hk
    have : mvF z c o 9 (fun x => msk z x 9) (mph z c o y) = msk z y 9 := by
      rw [mph]
      by_cases e : frB z c 9 y
      · rw [if_pos e, mvF_to ⟨by omega, by have := e.1; have := e.2.1; omega, by rw [Nat.add_sub_cancel_left]; exact e.2.2⟩, Nat.add_sub_cancel_left]
        congr 1
        have := e.1; omega
      · rw [if_neg e, mvF_no (fun a => hy (hf.to (Nat.le_refl 9) a).1) e]
    rw [this]
    refine hm1 _ _ _ _ _ (fun l => ?_)
    rw [iso_ch h hi hy]
    by_cases hc : ch z y l = 0
    · rw [if_pos hc]; exact ⟨fun _ => rfl, fun _ => hc⟩
    · rw [if_neg hc]
      exact ⟨fun b => absurd b hc, fun b => absurd ((iso_0 h hi (h.chp hc).1).mp b) hc⟩
theorem mv_W {z : Sz} {D : Nat → Nat} (h : WF z D) {c o : Nat} (hcK : z.K c = 1) (hf : Fit z c o) (hO : 0 < z.O c) (ho : o < 160) : ∀ x, mvF z c o 9 (Wz z D) x = Wz (mvT z c o) (fun x => D (mps z c o x)) x := by
  have hi := mv_iso h hcK hf hO ho
  have h' := iso_wf h hi
  intro x
  by_cases hk : (mvT z c o).K x = 0
  · rw [Wz_free h' hk]
    have hk' : mvF z c o 9 z.K x = 0 := hk
    by_cases e : toB z c o 9 x
    · rw [mvF_to e] at hk' ⊢
      exact Wz_free h hk'
    · by_cases e2 : frB z c 9 x
      · exact mvF_fr e e2
      · rw [mvF_no e e2] at hk' ⊢
        exact Wz_free h hk'
  · obtain ⟨y, hy, rfl⟩ := hi.2.2.1 x hk
    rw [iso_W h hi hy, mph]
    by_cases e : frB z c 9 y
    · rw [if_pos e, mvF_to ⟨by omega, by have := e.1; have := e.2.1; omega, by rw [Nat.add_sub_cancel_left]; exact e.2.2⟩, Nat.add_sub_cancel_left]
      congr 1
      have := e.1; omega
    · rw [if_neg e, mvF_no (fun a => hy (hf.to (Nat.le_refl 9) a).1) e]
