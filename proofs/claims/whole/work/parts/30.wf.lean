/-! the well-formed table; D is the depth of a cell -/
def fu {α : Type} (f : Nat → α) (i : Nat) (v : α) : Nat → α := fun j => if j = i then v else f j
theorem fu_eq {α : Type} (f : Nat → α) (i : Nat) (v : α) : fu f i v i = v := if_pos rfl
theorem fu_ne {α : Type} (f : Nat → α) {i j : Nat} (v : α) (h : j ≠ i) : fu f i v j = f j := if_neg h
def sm (f : Nat → Nat) : Nat → Nat
  | 0 => 0
  | n + 1 => sm f n + f n
theorem sm_congr {f g : Nat → Nat} : ∀ {n : Nat}, (∀ i, i < n → f i = g i) → sm f n = sm g n
  | 0, _ => rfl
  | n + 1, h => by
    show sm f n + f n = sm g n + g n
    rw [sm_congr (fun i hi => h i (by omega)), h n (by omega)]
theorem sm_add (f g : Nat → Nat) : ∀ n, sm (fun i => f i + g i) n = sm f n + sm g n
  | 0 => rfl
  | n + 1 => by
    show sm (fun i => f i + g i) n + (f n + g n) = (sm f n + f n) + (sm g n + g n)
    rw [sm_add f g n]; omega
theorem sm_zero : ∀ n, sm (fun _ => 0) n = 0
  | 0 => rfl
  | n + 1 => by
    show sm (fun _ => 0) n + 0 = 0
    rw [sm_zero n]
theorem sm_z {f : Nat → Nat} {n : Nat} (h : ∀ i, i < n → f i = 0) : sm f n = 0 := by
  rw [sm_congr h, sm_zero]
theorem sm_one {f : Nat → Nat} {n k : Nat} (hk : k < n) (h : ∀ i, i < n → i ≠ k → f i = 0) : sm f n = f k := by
  induction n with
  | zero => omega
  | succ n ih =>
    show sm f n + f n = f k
    by_cases e : n = k
    · subst e
      rw [sm_z (fun i hi => h i (by omega) (by omega)), Nat.zero_add]
    · rw [ih (by omega) (fun i hi => h i (by omega)), h n (by omega) e, Nat.add_zero]
theorem sm_swap (f : Nat → Nat → Nat) (m : Nat) : ∀ n, sm (fun i => sm (f i) m) n = sm (fun j => sm (fun i => f i j) n) m
  | 0 => (sm_zero m).symm
  | n + 1 => by
    show sm (fun i => sm (f i) m) n + sm (f n) m = sm (fun j => sm (fun i => f i j) n + f n j) m
    rw [sm_swap f m n, sm_add]
theorem sm_le {f g : Nat → Nat} : ∀ {n : Nat}, (∀ i, i < n → f i ≤ g i) → sm f n ≤ sm g n
  | 0, _ => Nat.le_refl _
  | n + 1, h => Nat.add_le_add (sm_le (fun i hi => h i (by omega))) (h n (by omega))
theorem sm_ge {f : Nat → Nat} {n k : Nat} (hk : k < n) : f k ≤ sm f n := by
  induction n with
  | zero => omega
  | succ n ih =>
    show f k ≤ sm f n + f n
    by_cases e : n = k
    · subst e; omega
    · have := ih (by omega); omega
theorem sm_const (c : Nat) : ∀ n, sm (fun _ => c) n = n * c
  | 0 => by rw [Nat.zero_mul]; rfl
  | n + 1 => by
    show sm (fun _ => c) n + c = _
    rw [sm_const c n, Nat.succ_mul]
/-- two sums that differ at one place -/
theorem sm_upd {f g : Nat → Nat} {n k : Nat} (hk : k < n) (h : ∀ i, i < n → i ≠ k → f i = g i) : sm f n + g k = sm g n + f k := by
  induction n with
  | zero => omega
  | succ n ih =>
    show sm f n + f n + g k = sm g n + g n + f k
    by_cases e : n = k
    · subst e
      rw [sm_congr (fun i hi => h i (by omega) (by omega))]; omega
    · have := ih (by omega) (fun i hi => h i (by omega))
      have := h n (by omega) e
      omega
theorem cnt_sm (p : Nat → Bool) : ∀ n, cnt p n = sm (fun i => if p i = true then 1 else 0) n
  | 0 => rfl
  | n + 1 => by
    show cnt p n + _ = sm _ n + _
    rw [cnt_sm p n]
def WFe (U : Nat → Nat) (X : Nat → List Nat) : Prop :=
  (∀ p, 40 ≤ p → U p = 0) ∧ (∀ p, U p = 0 → X p = []) ∧ (∀ p, okw (X p)) ∧ (∀ p q, U p ≠ 0 → U q ≠ 0 → X p = X q → p = q)
def WF (z : Sz) (D : Nat → Nat) : Prop :=
  (z.K 0 = 1 ∧ z.P 0 = 0 ∧ z.B 0 = 0 ∧ D 0 = 0) ∧
  (∀ c, 160 ≤ c → z.K c = 0) ∧
  (∀ c, z.K c = 0 → z.P c = 0 ∧ z.B c = 0 ∧ z.O c = 0 ∧ z.E c = 0) ∧
  (∀ c, c ≠ 0 → z.K c ≠ 0 → ∃ p l, z.P c = p + 1 ∧ z.B c = l + 1 ∧ l < 9 ∧ z.K p = 1 ∧ 0 < z.O p ∧ c = z.O p + l ∧ D c = D p + 1 ∧ (l = 0 → z.K c = 2 ∧ p ≠ 0 ∧ z.X (z.E c - 1) = [])) ∧
  (∀ c, z.K c = 2 → z.O c = 0 ∧ ∃ e, z.E c = e + 1 ∧ e < 40 ∧ z.U e ≠ 0) ∧
  (∀ c, z.K c = 1 → z.E c = 0 ∧ z.O c < 160 ∧ D c ≤ 11 ∧ (0 < z.O c → ∃ l, l < 9 ∧ ch z c l ≠ 0)) ∧
  (∀ c, z.K c < 3) ∧
  (∀ c, z.K c = 2 → z.B c ≠ 1 → D c + (z.X (z.E c - 1)).length ≤ 12) ∧
  WFe z.U z.X ∧
  (∀ p, z.U p = sm (fun c => if z.K c = 2 ∧ z.E c = p + 1 then 1 else 0) 160)
theorem WF.root {z : Sz} {D : Nat → Nat} (h : WF z D) : z.K 0 = 1 ∧ z.P 0 = 0 ∧ z.B 0 = 0 ∧ D 0 = 0 := h.1
theorem WF.lt {z : Sz} {D : Nat → Nat} (h : WF z D) {c : Nat} (hk : z.K c ≠ 0) : c < 160 := by
  have := h.2.1 c; omega
theorem WF.free {z : Sz} {D : Nat → Nat} (h : WF z D) {c : Nat} (hk : z.K c = 0) : z.P c = 0 ∧ z.B c = 0 ∧ z.O c = 0 ∧ z.E c = 0 := h.2.2.1 c hk
theorem WF.par {z : Sz} {D : Nat → Nat} (h : WF z D) {c : Nat} (h0 : c ≠ 0) (hk : z.K c ≠ 0) : ∃ p l, z.P c = p + 1 ∧ z.B c = l + 1 ∧ l < 9 ∧ z.K p = 1 ∧ 0 < z.O p ∧ c = z.O p + l ∧ D c = D p + 1 ∧ (l = 0 → z.K c = 2 ∧ p ≠ 0 ∧ z.X (z.E c - 1) = []) := h.2.2.2.1 c h0 hk
theorem WF.leaf {z : Sz} {D : Nat → Nat} (h : WF z D) {c : Nat} (hk : z.K c = 2) : z.O c = 0 ∧ ∃ e, z.E c = e + 1 ∧ e < 40 ∧ z.U e ≠ 0 := h.2.2.2.2.1 c hk
theorem WF.inn {z : Sz} {D : Nat → Nat} (h : WF z D) {c : Nat} (hk : z.K c = 1) : z.E c = 0 ∧ z.O c < 160 ∧ D c ≤ 11 ∧ (0 < z.O c → ∃ l, l < 9 ∧ ch z c l ≠ 0) := h.2.2.2.2.2.1 c hk
theorem WF.k3 {z : Sz} {D : Nat → Nat} (h : WF z D) (c : Nat) : z.K c < 3 := h.2.2.2.2.2.2.1 c
theorem WF.len {z : Sz} {D : Nat → Nat} (h : WF z D) {c : Nat} (hk : z.K c = 2) (hb : z.B c ≠ 1) : D c + (z.X (z.E c - 1)).length ≤ 12 := h.2.2.2.2.2.2.2.1 c hk hb
theorem WF.e {z : Sz} {D : Nat → Nat} (h : WF z D) : WFe z.U z.X := h.2.2.2.2.2.2.2.2.1
theorem WF.uses {z : Sz} {D : Nat → Nat} (h : WF z D) (p : Nat) : z.U p = sm (fun c => if z.K c = 2 ∧ z.E c = p + 1 then 1 else 0) 160 := h.2.2.2.2.2.2.2.2.2 p
theorem WF.k12 {z : Sz} {D : Nat → Nat} (h : WF z D) {c : Nat} (hk : z.K c ≠ 0) : z.K c = 1 ∨ z.K c = 2 := by
  have := h.k3 c; omega
theorem WF.sml {z : Sz} {D : Nat → Nat} (h : WF z D) : Sm z := by
  refine ⟨h.k3, fun c => ?_, fun c => ?_, fun c => ?_, fun c => ?_, fun p => ?_, h.e.2.2.1⟩
  · by_cases hk : z.K c = 0
    · rw [(h.free hk).1]; omega
    · by_cases h0 : c = 0
      · subst h0; rw [h.root.2.1]; omega
      · obtain ⟨p, l, h1, -, -, h4, -⟩ := h.par h0 hk
        have := h.lt (c := p) (by omega)
        omega
  · by_cases hk : z.K c = 0
    · rw [(h.free hk).2.1]; omega
    · by_cases h0 : c = 0
      · subst h0; rw [h.root.2.2.1]; omega
      · obtain ⟨p, l, -, h2, h3, -⟩ := h.par h0 hk
        omega
  · by_cases hk : z.K c = 0
    · rw [(h.free hk).2.2.1]; omega
    · rcases h.k12 hk with h1 | h1
      · exact (h.inn h1).2.1
      · rw [(h.leaf h1).1]; omega
  · by_cases hk : z.K c = 0
    · rw [(h.free hk).2.2.2]; omega
    · rcases h.k12 hk with h1 | h1
      · rw [(h.inn h1).1]; omega
      · obtain ⟨-, e, h2, h3, -⟩ := h.leaf h1
        omega
  · rw [h.uses p]
    have : sm (fun c => if z.K c = 2 ∧ z.E c = p + 1 then 1 else 0) 160 ≤ sm (fun _ => 1) 160 := sm_le (fun i _ => by split <;> omega)
    rw [sm_const] at this
    omega
theorem dp_part11 {d : Nat} {u s : List Nat} (h1 : d + u.length ≤ 12) (h2 : d + s.length ≤ 12) (hne : u ≠ s) : d ≤ 11 := by
  by_cases e : d ≤ 11
  · exact e
  · exact (hne (by rw [List.eq_nil_of_length_eq_zero (show u.length = 0 by omega), List.eq_nil_of_length_eq_zero (show s.length = 0 by omega)])).elim
theorem WF.dp {z : Sz} {D : Nat → Nat} (h : WF z D) {c : Nat} (hk : z.K c ≠ 0) : D c ≤ 12 := by
  by_cases h0 : c = 0
  · subst h0; rw [h.root.2.2.2]; omega
  · obtain ⟨p, l, -, -, -, h4, -, -, h7, -⟩ := h.par h0 hk
    have := (h.inn h4).2.2.1
    omega
/-! children -/
theorem ch_eq {z : Sz} {c l : Nat} (h1 : 0 < z.O c) (h2 : z.O c + l < 160) (h3 : 0 < z.K (z.O c + l)) (h4 : z.P (z.O c + l) = c + 1) : ch z c l = z.O c + l := if_pos ⟨h1, h2, h3, h4⟩
theorem WF.chp {z : Sz} {D : Nat → Nat} (h : WF z D) {c l : Nat} (hc : ch z c l ≠ 0) :
    z.K (ch z c l) ≠ 0 ∧ z.P (ch z c l) = c + 1 ∧ z.B (ch z c l) = l + 1 ∧ l < 9 ∧ z.K c = 1 ∧ ch z c l = z.O c + l ∧ D (ch z c l) = D c + 1 ∧ (l = 0 → z.K (ch z c l) = 2 ∧ c ≠ 0 ∧ z.X (z.E (ch z c l) - 1) = []) ∧ 0 < z.O c := by
  obtain ⟨h1, h2, h3, h4, h5⟩ := ch_0 (z := z) (c := c) (l := l) (by omega)
  rw [h1]
  obtain ⟨p, k, e1, e2, e3, e4, e5, e6, e7, e8⟩ := h.par (c := z.O c + l) (by omega) (by omega)
  have hp : p = c := by omega
  subst hp
  have hl : k = l := by omega
  subst hl
  exact ⟨by omega, e1, e2, e3, e4, rfl, e7, e8, h2⟩
theorem WF.ch_of {z : Sz} {D : Nat → Nat} (h : WF z D) {c p l : Nat} (h0 : c ≠ 0) (hk : z.K c ≠ 0) (hp : z.P c = p + 1) (hb : z.B c = l + 1) : ch z p l = c := by
  obtain ⟨p', l', e1, e2, e3, e4, e5, e6, e7, e8⟩ := h.par h0 hk
  have e : p' = p := by omega
  subst e
  have e : l' = l := by omega
  subst e
  rw [ch_eq e5 (by rw [← e6]; exact h.lt hk) (by rw [← e6]; omega) (by rw [← e6]; exact e1), ← e6]
theorem WF.ch0 {z : Sz} {D : Nat → Nat} (h : WF z D) {c l : Nat} (hk : z.K c ≠ 1) : ch z c l = 0 := by
  by_cases hc : ch z c l = 0
  · exact hc
  · exact absurd (h.chp hc).2.2.2.2.1 hk
theorem WF.ch9 {z : Sz} {D : Nat → Nat} (h : WF z D) {c l : Nat} (hl : 9 ≤ l) : ch z c l = 0 := by
  by_cases hc : ch z c l = 0
  · exact hc
  · have := (h.chp hc).2.2.2.1; omega
theorem WF.ch00 {z : Sz} {D : Nat → Nat} (h : WF z D) : ch z 0 0 = 0 := by
  by_cases hc : ch z 0 0 = 0
  · exact hc
  · exact absurd rfl ((h.chp hc).2.2.2.2.2.2.2.1 rfl).2.1
theorem wf_ind {z : Sz} {D : Nat → Nat} (h : WF z D) (Q : Nat → Prop) (hs : ∀ c, z.K c ≠ 0 → (∀ l, ch z c l ≠ 0 → Q (ch z c l)) → Q c) : ∀ c, z.K c ≠ 0 → Q c := by
  have : ∀ n c, z.K c ≠ 0 → 14 - D c = n → Q c := by
    intro n
    induction n using Nat.strongRecOn with
    | _ n ih =>
      intro c hk hn
      refine hs c hk (fun l hl => ?_)
      have h1 := h.chp hl
      have h2 := h.dp h1.1
      exact ih (14 - D (ch z c l)) (by omega) _ h1.1 rfl
  exact fun c hk => this _ c hk rfl
theorem wf_up {z : Sz} {D : Nat → Nat} (h : WF z D) (Q : Nat → Prop) (h0 : Q 0) (hs : ∀ c, c ≠ 0 → z.K c ≠ 0 → (∀ p, z.P c = p + 1 → z.K p = 1 → D c = D p + 1 → Q p) → Q c) : ∀ c, z.K c ≠ 0 → Q c := by
  have : ∀ n c, z.K c ≠ 0 → D c = n → Q c := by
    intro n
    induction n using Nat.strongRecOn with
    | _ n ih =>
      intro c hk hn
      by_cases e : c = 0
      · subst e; exact h0
      · refine hs c e hk (fun p hp hkp hd => ih (D p) (by omega) p (by omega) rfl)
  exact fun c hk => this _ c hk rfl
/-! the cells from a cell up to the root -/
def up (z : Sz) : Nat → Nat → List Nat
  | 0, _ => []
  | f + 1, c => c :: (if z.P c = 0 then [] else up z f (z.P c - 1))
def chain (z : Sz) (D : Nat → Nat) (c : Nat) : List Nat := up z (D c + 1) c
theorem chain_0 {z : Sz} {D : Nat → Nat} (h : WF z D) : chain z D 0 = [0] := by
  rw [chain, up, if_pos h.root.2.1]
theorem chain_s {z : Sz} {D : Nat → Nat} (h : WF z D) {c : Nat} (h0 : c ≠ 0) (hk : z.K c ≠ 0) : chain z D c = c :: chain z D (z.P c - 1) := by
  obtain ⟨p, l, h1, h2, h3, h4, h5, h6, h7, h8⟩ := h.par h0 hk
  rw [chain, up, if_neg (by omega), chain, show D c = D (z.P c - 1) + 1 by rw [h7, h1]; rfl]
theorem chain_self {z : Sz} {D : Nat → Nat} (c : Nat) : c ∈ chain z D c := by
  rw [chain, up]; exact List.mem_cons_self
theorem chain_all {z : Sz} {D : Nat → Nat} (h : WF z D) : ∀ c, z.K c ≠ 0 → ∀ a, a ∈ chain z D c → z.K a ≠ 0 ∧ D a ≤ D c ∧ (a ≠ c → z.K a = 1 ∧ D a < D c) := by
  refine wf_up h _ ?_ ?_
  · intro a ha
    rw [chain_0 h, List.mem_singleton] at ha
    subst ha
    exact ⟨by rw [h.root.1]; omega, Nat.le_refl _, fun e => absurd rfl e⟩
  · intro c h0 hk ih a ha
    rw [chain_s h h0 hk] at ha
    obtain ⟨p, l, h1, h2, h3, h4, h5, h6, h7, h8⟩ := h.par h0 hk
    rcases List.mem_cons.mp ha with rfl | ha
    · exact ⟨hk, Nat.le_refl _, fun e => absurd rfl e⟩
    · rw [show z.P c - 1 = p by omega] at ha
      obtain ⟨g1, g2, g3⟩ := ih p h1 h4 h7 a ha
      refine ⟨g1, by omega, fun _ => ⟨?_, by omega⟩⟩
      by_cases e : a = p
      · subst e; exact h4
      · exact (g3 e).1
theorem chain_root {z : Sz} {D : Nat → Nat} (h : WF z D) : ∀ c, z.K c ≠ 0 → 0 ∈ chain z D c := by
  refine wf_up h _ (chain_self 0) ?_
  intro c h0 hk ih
  obtain ⟨p, l, h1, h2, h3, h4, h5, h6, h7, h8⟩ := h.par h0 hk
  rw [chain_s h h0 hk, show z.P c - 1 = p by omega]
  exact List.mem_cons_of_mem _ (ih p h1 h4 h7)
theorem chain_nodup {z : Sz} {D : Nat → Nat} (h : WF z D) : ∀ c, z.K c ≠ 0 → (chain z D c).Nodup := by
  refine wf_up h _ (by rw [chain_0 h]; simp) ?_
  intro c h0 hk ih
  obtain ⟨p, l, h1, h2, h3, h4, h5, h6, h7, h8⟩ := h.par h0 hk
  rw [chain_s h h0 hk, show z.P c - 1 = p by omega, List.nodup_cons]
  refine ⟨fun hm => ?_, ih p h1 h4 h7⟩
  have := (chain_all h p (by omega) c hm).2.1
  omega
theorem chain_uni {z : Sz} {D : Nat → Nat} (h : WF z D) : ∀ c, z.K c ≠ 0 → ∀ a b, a ∈ chain z D c → b ∈ chain z D c → D a = D b → a = b := by
  refine wf_up h _ ?_ ?_
  · intro a b ha hb _
    rw [chain_0 h, List.mem_singleton] at ha hb
    rw [ha, hb]
  · intro c h0 hk ih a b ha hb hd
    obtain ⟨p, l, h1, h2, h3, h4, h5, h6, h7, h8⟩ := h.par h0 hk
    rw [chain_s h h0 hk, show z.P c - 1 = p by omega] at ha hb
    rcases List.mem_cons.mp ha with ea | ha'
    · rcases List.mem_cons.mp hb with eb | hb'
      · rw [ea, eb]
      · have := (chain_all h p (by omega) b hb').2.1
        rw [ea] at hd
        omega
    · rcases List.mem_cons.mp hb with eb | hb'
      · have := (chain_all h p (by omega) a ha').2.1
        rw [eb] at hd
        omega
      · exact ih p h1 h4 h7 a b ha' hb' hd
theorem chain_up {z : Sz} {D : Nat → Nat} (h : WF z D) : ∀ y, z.K y ≠ 0 → ∀ c l, ch z c l ≠ 0 → ch z c l ∈ chain z D y → c ∈ chain z D y := by
  refine wf_up h _ ?_ ?_
  · intro c l hc hm
    rw [chain_0 h, List.mem_singleton] at hm
    exact absurd hm hc
  · intro y h0 hk ih c l hc hm
    obtain ⟨p, k, h1, h2, h3, h4, h5, h6, h7, h8⟩ := h.par h0 hk
    rw [chain_s h h0 hk, show z.P y - 1 = p by omega] at hm ⊢
    rcases List.mem_cons.mp hm with e | hm
    · have e1 := (h.chp hc).2.1
      rw [e, h1] at e1
      rw [show c = p by omega]
      exact List.mem_cons_of_mem _ (chain_self p)
    · exact List.mem_cons_of_mem _ (ih p h1 h4 h7 c l hc hm)
theorem chain_down {z : Sz} {D : Nat → Nat} (h : WF z D) : ∀ y, z.K y ≠ 0 → ∀ c, c ∈ chain z D y → c ≠ y → ∃ l, l < 9 ∧ ch z c l ≠ 0 ∧ ch z c l ∈ chain z D y := by
  refine wf_up h _ ?_ ?_
  · intro c hm hn
    rw [chain_0 h, List.mem_singleton] at hm
    exact absurd hm hn
  · intro y h0 hk ih c hm hn
    obtain ⟨p, k, h1, h2, h3, h4, h5, h6, h7, h8⟩ := h.par h0 hk
    rw [chain_s h h0 hk, show z.P y - 1 = p by omega] at hm ⊢
    rcases List.mem_cons.mp hm with e | hm
    · exact absurd e hn
    · by_cases e : c = p
      · subst e
        have e1 := h.ch_of h0 hk h1 h2
        exact ⟨k, h3, by rw [e1]; exact h0, by rw [e1]; exact List.mem_cons_self⟩
      · obtain ⟨l, g1, g2, g3⟩ := ih p h1 h4 h7 c hm e
        exact ⟨l, g1, g2, List.mem_cons_of_mem _ g3⟩
theorem chain_l {z : Sz} {D : Nat → Nat} (h : WF z D) {y c l k : Nat} (hk : z.K y ≠ 0) (h1 : ch z c l ≠ 0) (h2 : ch z c k ≠ 0) (m1 : ch z c l ∈ chain z D y) (m2 : ch z c k ∈ chain z D y) : l = k := by
  have e1 := h.chp h1
  have e2 := h.chp h2
  have := chain_uni h y hk _ _ m1 m2 (by omega)
  omega
/-- a sum over the cells below a cell, by its children and by the chains -/
theorem br {z : Sz} {D : Nat → Nat} (h : WF z D) (g S : Nat → Nat) (hS : ∀ c, z.K c ≠ 0 → S c = g c + sm (fun l => if ch z c l = 0 then 0 else S (ch z c l)) 9) :
    ∀ c, z.K c ≠ 0 → S c = sm (fun y => if z.K y ≠ 0 ∧ c ∈ chain z D y then g y else 0) 160 := by
  refine wf_ind h _ ?_
  intro c hk ih
  have e1 : sm (fun l => if ch z c l = 0 then 0 else S (ch z c l)) 9 = sm (fun l => sm (fun y => if ch z c l ≠ 0 ∧ z.K y ≠ 0 ∧ ch z c l ∈ chain z D y then g y else 0) 160) 9 := by
    refine sm_congr (fun l _ => ?_)
    by_cases hc : ch z c l = 0
    · rw [if_pos hc, sm_z]
      intro y _
      rw [if_neg (fun e => e.1 hc)]
    · rw [if_neg hc, ih l hc]
      refine sm_congr (fun y _ => ?_)
      by_cases hy : z.K y ≠ 0 ∧ ch z c l ∈ chain z D y
      · rw [if_pos hy, if_pos ⟨hc, hy⟩]
      · rw [if_neg hy, if_neg (fun e => hy e.2)]
  have e2 : g c = sm (fun y => if y = c then g y else 0) 160 := by
    rw [sm_one (k := c) (h.lt hk) (fun i _ hi => if_neg hi), if_pos rfl]
  rw [hS c hk, e1, sm_swap, e2, ← sm_add]
  refine sm_congr (fun y _ => ?_)
  by_cases hy : z.K y ≠ 0
  · by_cases hm : c ∈ chain z D y
    · rw [if_pos (show z.K y ≠ 0 ∧ c ∈ chain z D y from ⟨hy, hm⟩)]
      by_cases e : y = c
      · subst e
        rw [if_pos rfl, sm_z]
        · rfl
        intro l _
        refine if_neg (fun g1 => ?_)
        have a1 := h.chp g1.1
        have a2 := (chain_all h y hy _ g1.2.2).2.1
        omega
      · rw [if_neg e]
        obtain ⟨l, g1, g2, g3⟩ := chain_down h y hy c hm (fun e' => e e'.symm)
        rw [sm_one (k := l) g1, if_pos ⟨g2, hy, g3⟩, Nat.zero_add]
        intro k _ hkl
        refine if_neg (fun a => hkl ?_)
        exact chain_l h hy a.1 g2 a.2.2 g3
    · rw [if_neg (fun e : z.K y ≠ 0 ∧ c ∈ chain z D y => hm e.2), if_neg (fun e => hm (by rw [e]; exact chain_self c)), sm_z]
      intro l _
      exact if_neg (fun a => hm (chain_up h y hy c l a.1 a.2.2))
  · rw [if_neg (fun e : z.K y ≠ 0 ∧ c ∈ chain z D y => hy e.1), if_neg (fun e => hy (by rw [e]; exact hk)), sm_z]
    intro l _
    exact if_neg (fun a => hy a.2.1)
