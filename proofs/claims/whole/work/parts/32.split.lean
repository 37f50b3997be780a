/-! words ahead of a text, words that begin with it -/
def ltw : List Nat → List Nat → Bool
  | _, [] => false
  | [], _ :: _ => true
  | a :: u, b :: v => if a = b then ltw u v else decide (a < b)
def pfx : List Nat → List Nat → Bool
  | [], _ => true
  | _ :: _, [] => false
  | b :: v, a :: u => if a = b then pfx v u else false
def nA (r : List Nat) (L : List (Nat × List Nat)) : Nat := L.countP (fun p => ltw p.2 r)
def nM (r : List Nat) (L : List (Nat × List Nat)) : Nat := L.countP (fun p => pfx r p.2)
theorem nA_nil (L : List (Nat × List Nat)) : nA [] L = 0 := by
  rw [nA, List.countP_eq_zero]
  intro p _
  cases h : p.2 <;> simp [ltw]
theorem nM_nil (L : List (Nat × List Nat)) : nM [] L = L.length := by
  rw [nM, List.countP_eq_length]
  intro p _
  rfl
theorem ltw_pre {l k : Nat} (hl : 1 ≤ l) (u r : List Nat) (hk : k ≠ l) (hu : k = 0 → u = []) : ltw (pre k u) (l :: r) = decide (k < l) := by
  cases k with
  | zero => rw [hu rfl]; simp [pre, ltw]; omega
  | succ k => rw [pre_s (by omega)]; simp only [ltw]; rw [if_neg hk]
theorem pfx_pre {l k : Nat} (hl : 1 ≤ l) (u r : List Nat) (hk : k ≠ l) (hu : k = 0 → u = []) : pfx (l :: r) (pre k u) = false := by
  cases k with
  | zero => rw [hu rfl]; rfl
  | succ k => rw [pre_s (by omega)]; simp only [pfx]; rw [if_neg hk]
theorem ltw_pre_e {l : Nat} (hl : 1 ≤ l) (u r : List Nat) : ltw (pre l u) (l :: r) = ltw u r := by
  rw [pre_s hl]; show (if l = l then ltw u r else decide (l < l)) = _; rw [if_pos rfl]
theorem pfx_pre_e {l : Nat} (hl : 1 ≤ l) (u r : List Nat) : pfx (l :: r) (pre l u) = pfx r u := by
  rw [pre_s hl]; show (if l = l then pfx r u else false) = _; rw [if_pos rfl]
/-- children by 0 have no letters -/
theorem Tc_z {z : Sz} {D : Nat → Nat} (h : WF z D) {c l : Nat} {p : Nat × List Nat} (hp : p ∈ Tc z D c l) : l = 0 → p.2 = [] := by
  intro e
  subst e
  by_cases hc : ch z c 0 = 0
  · rw [Tc_0 hc] at hp; cases hp
  · rw [Tc_1 hc] at hp
    exact (T_ok h _ (h.chp hc).1 p.1 p.2 hp).2.1 (h.chp hc).2.2.1
def bef (z : Sz) (D : Nat → Nat) (c l : Nat) : Nat := sm (fun k => (Tc z D c k).length) l
theorem gr_count {g : Nat → List (Nat × List Nat)} (Q : Nat × List Nat → Bool) : ∀ {n : Nat}, (gr g n).countP Q = sm (fun l => (g l).countP (fun p => Q (p.1, pre l p.2))) n
  | 0 => rfl
  | n + 1 => by
    show (gr g n ++ _).countP Q = sm _ n + _
    rw [List.countP_append, gr_count Q, List.countP_map]
    rfl
theorem nA_inner {z : Sz} {D : Nat → Nat} (h : WF z D) {c l : Nat} (hk : z.K c = 1) (hl : 1 ≤ l) (hl9 : l < 9) (r : List Nat) : nA (l :: r) (Tz z D c) = bef z D c l + nA r (Tc z D c l) := by
  rw [nA, T_inner h hk, gr_count]
  have e : ∀ k, (Tc z D c k).countP (fun p => ltw (pre k p.2) (l :: r)) = if k = l then nA r (Tc z D c l) else if k < l then (Tc z D c k).length else 0 := by
    intro k
    by_cases e : k = l
    · subst e
      rw [if_pos rfl, nA]
      refine List.countP_congr (fun p hp => ?_)
      rw [ltw_pre_e hl]
    · rw [if_neg e]
      by_cases e2 : k < l
      · rw [if_pos e2, List.countP_eq_length]
        intro p hp
        rw [ltw_pre hl _ _ e (Tc_z h hp)]
        exact decide_eq_true e2
      · rw [if_neg e2, List.countP_eq_zero]
        intro p hp
        rw [ltw_pre hl _ _ e (Tc_z h hp)]
        simp [e2]
  rw [sm_congr (fun k _ => e k)]
  have : ∀ n, l ≤ n → sm (fun k => if k = l then nA r (Tc z D c l) else if k < l then (Tc z D c k).length else 0) n = bef z D c l + (if l < n then nA r (Tc z D c l) else 0) := by
    intro n
    induction n with
    | zero =>
      intro h0
      have : l = 0 := by omega
      omega
    | succ n ih =>
      intro hn
      show sm _ n + (if n = l then _ else _) = _
      by_cases e1 : l ≤ n
      · rw [ih e1, if_pos (show l < n + 1 by omega)]
        by_cases e2 : n = l
        · rw [if_pos e2, if_neg (by omega), Nat.add_zero]
        · rw [if_neg e2, if_neg (show ¬ n < l by omega), if_pos (by omega), Nat.add_zero]
      · have e2 : l = n + 1 := by omega
        rw [if_neg (show ¬ l < n + 1 by omega), Nat.add_zero, if_neg (by omega), if_pos (by omega), bef, e2]
        show _ = sm _ n + _
        congr 1
        exact sm_congr (fun k hk => by rw [if_neg (by omega), if_pos (by omega)])
  rw [this 9 (by omega), if_pos hl9]
theorem nM_inner {z : Sz} {D : Nat → Nat} (h : WF z D) {c l : Nat} (hk : z.K c = 1) (hl : 1 ≤ l) (hl9 : l < 9) (r : List Nat) : nM (l :: r) (Tz z D c) = nM r (Tc z D c l) := by
  rw [nM, T_inner h hk, gr_count, sm_one (k := l) hl9]
  · rw [nM]
    refine List.countP_congr (fun p hp => ?_)
    rw [pfx_pre_e hl]
  · intro k _ hkl
    rw [List.countP_eq_zero]
    intro p hp
    rw [pfx_pre hl _ _ hkl (Tc_z h hp)]
    simp
/-- the list: words ahead, then those that begin with the text, then the others -/
def Spl (L : List (Nat × List Nat)) (r : List Nat) : Prop := ∀ (i : Nat) p, L[i]? = some p → (ltw p.2 r = true ↔ i < nA r L) ∧ (pfx r p.2 = true ↔ nA r L ≤ i ∧ i < nA r L + nM r L)
theorem spl_nil (L : List (Nat × List Nat)) : Spl L [] := by
  intro i p hp
  obtain ⟨h1, -⟩ := List.getElem?_eq_some_iff.mp hp
  rw [nA_nil, nM_nil]
  constructor
  · constructor
    · intro e
      cases h : p.2 <;> rw [h] at e <;> simp [ltw] at e
    · intro e; omega
  · constructor
    · intro _; omega
    · intro _; rfl
theorem spl_one (y : Nat) (u r : List Nat) (hx : ltw u r = true → pfx r u = false) : Spl [(y, u)] r := by
  intro i p hp
  cases i with
  | succ i => simp at hp
  | zero =>
    simp only [List.getElem?_cons_zero, Option.some.injEq] at hp
    subst hp
    simp only [nA, nM, List.countP_cons, List.countP_nil]
    cases h1 : ltw u r
    · cases h2 : pfx r u <;> simp
    · rw [hx h1]; simp
theorem ltw_pfx : ∀ {u r : List Nat}, ltw u r = true → pfx r u = false
  | u, [], h => by cases u <;> simp [ltw] at h
  | [], _ :: _, _ => rfl
  | a :: u, b :: v, h => by
    simp only [ltw] at h
    simp only [pfx]
    by_cases e : a = b
    · rw [if_pos e] at h ⊢
      exact ltw_pfx h
    · rw [if_neg e]
theorem sm_mono (f : Nat → Nat) {a b : Nat} (h : a ≤ b) : sm f a ≤ sm f b := by
  obtain ⟨d, rfl⟩ : ∃ d, b = a + d := ⟨b - a, by omega⟩
  clear h
  induction d with
  | zero => exact Nat.le_refl _
  | succ d ih => exact Nat.le_trans ih (Nat.le_add_right _ _)
/-- a place in a list of groups lies in one group -/
theorem gr_at {g : Nat → List (Nat × List Nat)} : ∀ {n i : Nat} {p : Nat × List Nat}, (gr g n)[i]? = some p → ∃ k, k < n ∧ sm (fun l => (g l).length) k ≤ i ∧ i < sm (fun l => (g l).length) (k + 1) ∧ ∃ q, (g k)[i - sm (fun l => (g l).length) k]? = some q ∧ p = (q.1, pre k q.2)
  | 0, i, p, h => by simp [gr] at h
  | n + 1, i, p, h => by
    have h' : (gr g n ++ (g n).map (fun p => (p.1, pre n p.2)))[i]? = some p := h
    by_cases e : i < (gr g n).length
    · rw [List.getElem?_append_left e] at h'
      obtain ⟨k, h1, h2⟩ := gr_at h'
      exact ⟨k, by omega, h2⟩
    · rw [List.getElem?_append_right (by omega), List.getElem?_map, gr_len] at h'
      rw [gr_len] at e
      cases hq : (g n)[i - sm (fun l => (g l).length) n]? with
      | none => rw [hq] at h'; simp at h'
      | some q =>
        rw [hq] at h'
        obtain ⟨b1, -⟩ := List.getElem?_eq_some_iff.mp hq
        refine ⟨n, by omega, by omega, ?_, q, hq, ?_⟩
        · show i < sm (fun l => (g l).length) n + (g n).length
          omega
        · simpa using h'.symm
theorem T_spl {z : Sz} {D : Nat → Nat} (h : WF z D) : ∀ c, z.K c ≠ 0 → ∀ r, (∀ l ∈ r, 1 ≤ l ∧ l ≤ 8) → Spl (Tz z D c) r := by
  refine wf_ind h _ ?_
  intro c hk ih r hr
  cases r with
  | nil => exact spl_nil _
  | cons l r =>
    have hl := hr l List.mem_cons_self
    rcases h.k12 hk with h1 | h1
    · intro i p hp
      rw [nA_inner h h1 hl.1 (by omega), nM_inner h h1 hl.1 (by omega)]
      rw [T_inner h h1] at hp
      obtain ⟨k, g1, g2, g3, q, g4, g5⟩ := gr_at hp
      have hm : q ∈ Tc z D c k := List.mem_of_getElem? g4
      subst g5
      have hle : nA r (Tc z D c l) + nM r (Tc z D c l) ≤ (Tc z D c l).length := by
        have e1 : ∀ L : List (Nat × List Nat), nA r L + nM r L ≤ L.length := by
          intro L
          induction L with
          | nil => exact Nat.le_refl _
          | cons a L ihL =>
            simp only [nA, nM, List.countP_cons, List.length_cons] at ihL ⊢
            cases h1 : ltw a.2 r
            · cases h2 : pfx r a.2 <;> simp <;> omega
            · rw [ltw_pfx h1]; simp; omega
        exact e1 _
      by_cases e : k = l
      · subst e
        show (ltw (pre k q.2) (k :: r) = true ↔ _) ∧ (pfx (k :: r) (pre k q.2) = true ↔ _)
        rw [ltw_pre_e hl.1, pfx_pre_e hl.1]
        have hs : Spl (Tc z D c k) r := by
          by_cases hc : ch z c k = 0
          · rw [Tc_0 hc]; intro i p hp; simp at hp
          · rw [Tc_1 hc]
            exact ih k hc r (fun x hx => hr x (List.mem_cons_of_mem _ hx))
        obtain ⟨a1, a2⟩ := hs _ q g4
        rw [a1, a2]
        show (_ ↔ i < sm _ k + _) ∧ _
        constructor
        · constructor <;> intro _ <;> omega
        · show (_ ↔ sm _ k + _ ≤ i ∧ i < sm _ k + _ + _)
          constructor <;> intro _ <;> omega
      · show (ltw (pre k q.2) (l :: r) = true ↔ _) ∧ (pfx (l :: r) (pre k q.2) = true ↔ _)
        rw [ltw_pre hl.1 _ _ e (Tc_z h hm), pfx_pre hl.1 _ _ e (Tc_z h hm)]
        have e3 : bef z D c l = sm (fun l => (Tc z D c l).length) l := rfl
        by_cases e2 : k < l
        · have := sm_mono (fun l => (Tc z D c l).length) (show k + 1 ≤ l by omega)
          constructor
          · constructor
            · intro _; omega
            · intro _; exact decide_eq_true e2
          · constructor
            · intro a; cases a
            · intro a; omega
        · have := sm_mono (fun l => (Tc z D c l).length) (show l + 1 ≤ k by omega)
          have e4 : sm (fun l => (Tc z D c l).length) (l + 1) = sm (fun l => (Tc z D c l).length) l + (Tc z D c l).length := rfl
          constructor
          · constructor
            · intro a; exact absurd (of_decide_eq_true a) e2
            · intro _; omega
          · constructor
            · intro a; cases a
            · intro a; omega
    · rw [T_leaf h h1]
      exact spl_one _ _ _ ltw_pfx
/-! the longest word with which a text begins: 0 for none, else its letters and 1 -/
def lgs (r : List Nat) : List (Nat × List Nat) → Nat → Nat
  | [], m => m
  | p :: L, m => lgs r L (if pfx p.2 r = true ∧ m < p.2.length + 1 then p.2.length + 1 else m)
theorem lgs_max (r : List Nat) : ∀ (L : List (Nat × List Nat)) (m : Nat), m ≤ lgs r L m ∧ (∀ p ∈ L, pfx p.2 r = true → p.2.length + 1 ≤ lgs r L m) ∧ (lgs r L m = m ∨ ∃ p ∈ L, pfx p.2 r = true ∧ lgs r L m = p.2.length + 1)
  | [], m => ⟨Nat.le_refl _, fun p hp => (nomatch hp), Or.inl rfl⟩
  | q :: L, m => by
    show m ≤ lgs r L _ ∧ _
    obtain ⟨h1, h2, h3⟩ := lgs_max r L (if pfx q.2 r = true ∧ m < q.2.length + 1 then q.2.length + 1 else m)
    by_cases e : pfx q.2 r = true ∧ m < q.2.length + 1
    · simp only [if_pos e] at h1 h2 h3
      refine ⟨by simp only [if_pos e]; omega, ?_, ?_⟩
      · intro p hp hx
        show _ ≤ lgs r L _
        rw [if_pos e]
        rcases List.mem_cons.mp hp with rfl | hp
        · exact h1
        · exact h2 p hp hx
      · right
        show ∃ p ∈ _, _ ∧ lgs r L _ = _
        rw [if_pos e]
        rcases h3 with h3 | ⟨p, hp, hx, h3⟩
        · exact ⟨q, List.mem_cons_self, e.1, h3⟩
        · exact ⟨p, List.mem_cons_of_mem _ hp, hx, h3⟩
    · simp only [if_neg e] at h1 h2 h3
      refine ⟨by simp only [if_neg e]; omega, ?_, ?_⟩
      · intro p hp hx
        show _ ≤ lgs r L _
        rw [if_neg e]
        rcases List.mem_cons.mp hp with rfl | hp
        · have : ¬ m < p.2.length + 1 := fun a => e ⟨hx, a⟩
          omega
        · exact h2 p hp hx
      · show lgs r L _ = m ∨ ∃ p ∈ _, _ ∧ lgs r L _ = _
        rw [if_neg e]
        rcases h3 with h3 | ⟨p, hp, hx, h3⟩
        · exact Or.inl h3
        · exact Or.inr ⟨p, List.mem_cons_of_mem _ hp, hx, h3⟩
/-- what lgs comes to from 0 -/
theorem lgs_eq {r : List Nat} {L : List (Nat × List Nat)} {n : Nat} (h1 : ∀ p ∈ L, pfx p.2 r = true → p.2.length + 1 ≤ n) (h2 : n = 0 ∨ ∃ p ∈ L, pfx p.2 r = true ∧ n = p.2.length + 1) : lgs r L 0 = n := by
  obtain ⟨-, g2, g3⟩ := lgs_max r L 0
  rcases h2 with h2 | ⟨p, hp, hx, h2⟩
  · rcases g3 with g3 | ⟨q, hq, hy, g3⟩
    · omega
    · have := h1 q hq hy; omega
  · have := g2 p hp hx
    rcases g3 with g3 | ⟨q, hq, hy, g3⟩
    · omega
    · have := h1 q hq hy; omega
theorem lgs_inner {z : Sz} {D : Nat → Nat} (h : WF z D) {c : Nat} (hk : z.K c = 1) (r : List Nat) (hr : ∀ l ∈ r, 1 ≤ l ∧ l ≤ 8) :
    lgs r (Tz z D c) 0 = match r with
      | [] => if ch z c 0 = 0 then 0 else 1
      | l :: s => if lgs s (Tc z D c l) 0 = 0 then (if ch z c 0 = 0 then 0 else 1) else lgs s (Tc z D c l) 0 + 1 := by
  have hz : ch z c 0 ≠ 0 → ∃ p ∈ Tz z D c, p.2 = [] := by
    intro hc
    have h1 := h.chp hc
    have h2 := h1.2.2.2.2.2.2.2.1 rfl
    refine ⟨(ch z c 0, []), ?_, rfl⟩
    rw [T_inner h hk, gr_mem]
    refine ⟨0, by omega, (ch z c 0, []), ?_, rfl⟩
    rw [Tc_1 hc, T_leaf h h2.1, h2.2.2]
    exact List.mem_singleton.mpr rfl
  have hm : ∀ p ∈ Tz z D c, (p.2 = [] ∧ ch z c 0 ≠ 0) ∨ ∃ l u, 1 ≤ l ∧ l ≤ 8 ∧ p.2 = l :: u ∧ (p.1, u) ∈ Tc z D c l := by
    intro p hp
    rw [T_inner h hk, gr_mem] at hp
    obtain ⟨l, hl, q, g1, g2⟩ := hp
    by_cases e : l = 0
    · left
      have := Tc_z h g1 e
      subst e
      refine ⟨by rw [g2]; exact this, fun hc => ?_⟩
      rw [Tc_0 hc] at g1; cases g1
    · right
      refine ⟨l, q.2, by omega, by omega, by rw [g2, pre_s (by omega)], ?_⟩
      rw [g2]; exact g1
  cases r with
  | nil =>
    refine lgs_eq ?_ ?_
    · intro p hp hx
      rcases hm p hp with ⟨e, hc⟩ | ⟨l, u, -, -, e, -⟩
      · show _ ≤ if ch z c 0 = 0 then 0 else 1
        rw [e, if_neg hc]; exact Nat.le_refl _
      · rw [e] at hx; cases hx
    · show (if ch z c 0 = 0 then 0 else 1) = 0 ∨ _
      by_cases hc : ch z c 0 = 0
      · rw [if_pos hc]; exact Or.inl rfl
      · right
        obtain ⟨p, hp, e⟩ := hz hc
        refine ⟨p, hp, by rw [e]; rfl, ?_⟩
        show (if ch z c 0 = 0 then 0 else 1) = _
        rw [if_neg hc, e]; rfl
  | cons l s =>
    have hl := hr l List.mem_cons_self
    show _ = if lgs s (Tc z D c l) 0 = 0 then (if ch z c 0 = 0 then 0 else 1) else lgs s (Tc z D c l) 0 + 1
    obtain ⟨-, g2, g3⟩ := lgs_max s (Tc z D c l) 0
    refine lgs_eq ?_ ?_
    · intro p hp hx
      rcases hm p hp with ⟨e, hc⟩ | ⟨k, u, hk1, hk2, e, hu⟩
      · rw [e, if_neg hc]
        split
        · exact Nat.le_refl _
        · show 1 ≤ _
          omega
      · rw [e] at hx ⊢
        simp only [pfx] at hx
        by_cases ek : l = k
        · rw [if_pos ek] at hx
          subst ek
          have := g2 (p.1, u) hu hx
          simp only at this
          rw [if_neg (by omega), List.length_cons]
          omega
        · rw [if_neg ek] at hx; cases hx
    · rcases g3 with g3 | ⟨q, hq, hx, g3⟩
      · rw [if_pos g3]
        by_cases hc : ch z c 0 = 0
        · rw [if_pos hc]; exact Or.inl rfl
        · right
          obtain ⟨p, hp, e⟩ := hz hc
          refine ⟨p, hp, by rw [e]; rfl, ?_⟩
          rw [if_neg hc, e]; rfl
      · right
        rw [if_neg (by omega)]
        refine ⟨(q.1, l :: q.2), ?_, ?_, ?_⟩
        · rw [T_inner h hk, gr_mem]
          exact ⟨l, by omega, q, hq, by rw [pre_s hl.1]⟩
        · show (if l = l then pfx q.2 s else false) = true
          rw [if_pos rfl]; exact hx
        · rw [g3]; rfl
/-! the letters of all words -/
def lsum (L : List (Nat × List Nat)) : Nat := (L.map (fun p => p.2.length)).sum
theorem lsum_inner {z : Sz} {D : Nat → Nat} (h : WF z D) {c : Nat} (hk : z.K c = 1) : lsum (Tz z D c) = sm (fun l => lsum (Tc z D c l) + if l = 0 then 0 else (Tc z D c l).length) 9 := by
  rw [T_inner h hk]
  have : ∀ n, lsum (gr (Tc z D c) n) = sm (fun l => lsum (Tc z D c l) + if l = 0 then 0 else (Tc z D c l).length) n := by
    intro n
    induction n with
    | zero => rfl
    | succ n ih =>
      show lsum (gr (Tc z D c) n ++ _) = sm _ n + _
      rw [← ih, lsum, List.map_append, List.sum_append_nat]
      congr 1
      rw [List.map_map]
      show _ = lsum (Tc z D c n) + if n = 0 then 0 else (Tc z D c n).length
      by_cases e : n = 0
      · subst e
        rw [if_pos rfl, Nat.add_zero, lsum]
        rfl
      · rw [if_neg e, lsum]
        generalize Tc z D c n = L
        induction L with
        | nil => rfl
        | cons a L ihL =>
          rw [List.map_cons, List.sum_cons, ihL, List.map_cons, List.sum_cons, List.length_cons]
          show (pre n a.2).length + _ = _
          rw [pre_s (by omega), List.length_cons]
          omega
  exact this 9
theorem lsum_T {z : Sz} {D : Nat → Nat} (h : WF z D) : lsum (Tz z D 0) = sm (fun y => (if 1 < z.B y then Wz z D y else 0) + (if z.K y = 2 then (z.X (z.E y - 1)).length else 0)) 160 := by
  have h0 : z.K 0 ≠ 0 := by rw [h.root.1]; omega
  have := br h (fun y => (if 1 < z.B y then Wz z D y else 0) + (if z.K y = 2 then (z.X (z.E y - 1)).length else 0)) (fun c => lsum (Tz z D c) + if 1 < z.B c then Wz z D c else 0) (by
    intro c hk
    show lsum (Tz z D c) + _ = _
    rcases h.k12 hk with h1 | h1
    · rw [lsum_inner h h1, if_neg (show ¬ z.K c = 2 by omega), Nat.add_zero, Nat.add_comm]
      congr 1
      refine sm_congr (fun l _ => ?_)
      by_cases hc : ch z c l = 0
      · rw [if_pos hc, Tc_0 hc]
        show 0 + (if l = 0 then 0 else 0) = 0
        split <;> rfl
      · rw [if_neg hc, Tc_1 hc, (h.chp hc).2.2.1, T_len h (h.chp hc).1]
        by_cases e : l = 0
        · rw [if_pos e, if_neg (by omega)]
        · rw [if_neg e, if_pos (by omega)]
    · rw [T_leaf h h1, if_pos h1, sm_z (fun l _ => if_pos (h.ch0 (by omega)))]
      show (z.X (z.E c - 1)).length + 0 + _ = _
      omega) 0 h0
  rw [if_neg (by rw [h.root.2.2.1]; omega), Nat.add_zero] at this
  show lsum (Tz z D 0) = _
  rw [this]
  refine sm_congr (fun y _ => ?_)
  by_cases hy : z.K y ≠ 0
  · rw [if_pos ⟨hy, chain_root h y hy⟩]
  · rw [if_neg (fun e => hy e.1), if_neg (by have := (h.free (c := y) (by omega)).2.1; omega), if_neg (by omega)]
