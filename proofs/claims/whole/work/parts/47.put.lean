/-! a child is put -/
def putC (z : Sz) (c o l k e : Nat) (U : Nat → Nat) (X : Nat → List Nat) : Sz := sX (sO (sE (sB (sP (sK z (fu z.K (o + l) k)) (fu z.P (o + l) (c + 1))) (fu z.B (o + l) (l + 1))) (fu z.E (o + l) e)) (fu z.O c o)) U X
def PutOk (z : Sz) (c o l : Nat) : Prop := z.K c = 1 ∧ l < 9 ∧ 0 < o ∧ o < 160 ∧ o + l < 160 ∧ z.K (o + l) = 0 ∧ (z.O c = o ∨ z.O c = 0)
theorem put_no {z : Sz} {D : Nat → Nat} (h : WF z D) {c o l : Nat} (hp : PutOk z c o l) : ch z c l = 0 := by
  by_cases hc : ch z c l = 0
  · exact hc
  · have h1 := h.chp hc
    rcases hp.2.2.2.2.2.2 with e | e
    · have h2 := hp.2.2.2.2.2.1
      rw [← e, ← h1.2.2.2.2.2.1] at h2
      exact absurd h2 h1.1
    · have := h1.2.2.2.2.2.2.2.2; omega
theorem ch_iff {z : Sz} {c l x : Nat} (hx : x ≠ 0) : ch z c l = x ↔ 0 < z.O c ∧ z.O c + l < 160 ∧ 0 < z.K (z.O c + l) ∧ z.P (z.O c + l) = c + 1 ∧ z.O c + l = x := by
  constructor
  · intro e
    have := ch_0 (z := z) (c := c) (l := l) (by omega)
    exact ⟨this.2.1, this.2.2.1, this.2.2.2.1, this.2.2.2.2, by rw [← this.1]; exact e⟩
  · rintro ⟨h1, h2, h3, h4, h5⟩
    rw [ch_eq h1 h2 h3 h4, h5]
theorem ch_same {z z' : Sz} {a b : Nat} (h : ∀ x, x ≠ 0 → (ch z' a b = x ↔ ch z a b = x)) : ch z' a b = ch z a b := by
  by_cases e : ch z a b = 0
  · by_cases e2 : ch z' a b = 0
    · rw [e, e2]
    · exact ((h _ e2).mp rfl).symm
  · exact (h _ e).mpr rfl
theorem put_ch {z : Sz} {D : Nat → Nat} (h : WF z D) {c o l k e : Nat} {U : Nat → Nat} {X : Nat → List Nat} (hp : PutOk z c o l) (hk : k ≠ 0) : ch (putC z c o l k e U X) c l = o + l ∧ (∀ a b, a ≠ o + l → ¬ (a = c ∧ b = l) → ch (putC z c o l k e U X) a b = ch z a b) ∧ ∀ b, ch (putC z c o l k e U X) (o + l) b = 0 := by
  obtain ⟨p1, p2, p3, p4, p5, p6, p7⟩ := hp
  have hcx : c ≠ o + l := by intro b; rw [← b] at p6; omega
  refine ⟨?_, ?_, ?_⟩
  · have e1 : (putC z c o l k e U X).O c = o := fu_eq _ _ _
    have e2 : (putC z c o l k e U X).K (o + l) = k := fu_eq _ _ _
    have e3 : (putC z c o l k e U X).P (o + l) = c + 1 := fu_eq _ _ _
    rw [ch_eq (by rw [e1]; exact p3) (by rw [e1]; exact p5) (by rw [e1, e2]; omega) (by rw [e1, e3]), e1]
  · intro a b ha hab
    have hK : ∀ y, y ≠ o + l → (putC z c o l k e U X).K y = z.K y := fun y hy => fu_ne _ _ hy
    have hP : ∀ y, y ≠ o + l → (putC z c o l k e U X).P y = z.P y := fun y hy => fu_ne _ _ hy
    have hPx : (putC z c o l k e U X).P (o + l) = c + 1 := fu_eq _ _ _
    by_cases hac : a = c
    · subst hac
      have e1 : (putC z a o l k e U X).O a = o := fu_eq _ _ _
      have hbl : b ≠ l := fun q => hab ⟨rfl, q⟩
      refine ch_same (fun x hx => ?_)
      rw [ch_iff hx, ch_iff hx, e1, hK (o + b) (by omega), hP (o + b) (by omega)]
      rcases p7 with p7 | p7
      · rw [p7]
      · rw [p7]
        constructor
        · rintro ⟨q1, q2, q3, q4, q5⟩
          exfalso
          obtain ⟨p', l', w1, w2, w3, w4, w5, w6, w7, w8⟩ := h.par (c := o + b) (by omega) (by omega)
          have : p' = a := by omega
          rw [this] at w5; omega
        · rintro ⟨q1, -⟩; omega
    · have e1 : (putC z c o l k e U X).O a = z.O a := fu_ne _ _ hac
      refine ch_same (fun x hx => ?_)
      rw [ch_iff hx, ch_iff hx, e1]
      by_cases e2 : z.O a + b = o + l
      · rw [e2, hPx]
        constructor
        · rintro ⟨q1, q2, q3, q4, q5⟩; omega
        · rintro ⟨q1, q2, q3, q4, q5⟩; omega
      · rw [hK _ e2, hP _ e2]
  · intro b
    have e1 : (putC z c o l k e U X).O (o + l) = 0 := by
      show fu z.O c o (o + l) = 0
      rw [fu_ne _ _ (fun q => hcx q.symm)]
      exact (h.free p6).2.2.1
    refine if_neg (fun q => ?_)
    rw [e1] at q; omega
/-- what is asked of the ends when a child is put -/
def PutE (z : Sz) (D : Nat → Nat) (c l k e : Nat) (U : Nat → Nat) (X : Nat → List Nat) : Prop :=
  WFe U X ∧ (∀ q, U q = z.U q + if k = 2 ∧ e = q + 1 then 1 else 0) ∧ (∀ q, z.U q ≠ 0 → X q = z.X q) ∧
  ((k = 1 ∧ e = 0 ∧ 1 ≤ l ∧ D c + 1 ≤ 11) ∨ (k = 2 ∧ ∃ p, e = p + 1 ∧ p < 40 ∧ (l = 0 → X p = [] ∧ c ≠ 0) ∧ (1 ≤ l → D c + 1 + (X p).length ≤ 12)))
theorem put_wf {z : Sz} {D : Nat → Nat} (h : WF z D) {c o l k e : Nat} {U : Nat → Nat} {X : Nat → List Nat} (hp : PutOk z c o l) (hE : PutE z D c l k e U X) : WF (putC z c o l k e U X) (fu D (o + l) (D c + 1)) := by
  have hk : k ≠ 0 := by
    rcases hE.2.2.2 with q | q <;> omega
  have hk3 : k < 3 := by
    rcases hE.2.2.2 with q | q <;> omega
  obtain ⟨c1, c2, c3⟩ := put_ch h (e := e) (U := U) (X := X) hp hk
  obtain ⟨p1, p2, p3, p4, p5, p6, p7⟩ := hp
  obtain ⟨a1, a2, a3, a4⟩ := hE
  have hx0 : o + l ≠ 0 := by omega
  have hcx : c ≠ o + l := by intro b; rw [← b] at p6; omega
  have hK : ∀ y, y ≠ o + l → (putC z c o l k e U X).K y = z.K y := fun y hy => fu_ne _ _ hy
  have hP : ∀ y, y ≠ o + l → (putC z c o l k e U X).P y = z.P y := fun y hy => fu_ne _ _ hy
  have hB : ∀ y, y ≠ o + l → (putC z c o l k e U X).B y = z.B y := fun y hy => fu_ne _ _ hy
  have hE : ∀ y, y ≠ o + l → (putC z c o l k e U X).E y = z.E y := fun y hy => fu_ne _ _ hy
  have hO : ∀ y, y ≠ c → (putC z c o l k e U X).O y = z.O y := fun y hy => fu_ne _ _ hy
  have hKx : (putC z c o l k e U X).K (o + l) = k := fu_eq _ _ _
  have hPx : (putC z c o l k e U X).P (o + l) = c + 1 := fu_eq _ _ _
  have hBx : (putC z c o l k e U X).B (o + l) = l + 1 := fu_eq _ _ _
  have hEx : (putC z c o l k e U X).E (o + l) = e := fu_eq _ _ _
  have hOc : (putC z c o l k e U X).O c = o := fu_eq _ _ _
  have hOx : (putC z c o l k e U X).O (o + l) = 0 := by rw [hO _ (fun q => hcx q.symm)]; exact (h.free p6).2.2.1
  have hD : ∀ y, y ≠ o + l → fu D (o + l) (D c + 1) y = D y := fun y hy => fu_ne _ _ hy
  have hUU : ∀ q, z.U q ≠ 0 → U q ≠ 0 := fun q hq => by rw [a2 q]; omega
  refine ⟨⟨?_, ?_, ?_, ?_⟩, ?_, ?_, ?_, ?_, ?_, ?_, ?_, a1, ?_⟩
  · rw [hK 0 (by omega)]; exact h.root.1
  · rw [hP 0 (by omega)]; exact h.root.2.1
  · rw [hB 0 (by omega)]; exact h.root.2.2.1
  · rw [hD 0 (by omega)]; exact h.root.2.2.2
  · intro y hy
    rw [hK y (by omega)]; exact h.2.1 y hy
  · intro y hy
    have hyx : y ≠ o + l := by intro q; rw [q, hKx] at hy; omega
    rw [hK y hyx] at hy
    have hyc : y ≠ c := by intro q; rw [q] at hy; omega
    rw [hP y hyx, hB y hyx, hE y hyx, hO y hyc]
    exact h.free hy
  · intro y hy0 hy
    by_cases hyx : y = o + l
    · subst hyx
      refine ⟨c, l, hPx, hBx, p2, by rw [hK c hcx]; exact p1, by rw [hOc]; exact p3, by rw [hOc], by rw [fu_eq, hD c hcx], fun hl => ?_⟩
      rcases a4 with q | ⟨q1, p, q2, q3, q4, q5⟩
      · omega
      · rw [hKx, hEx, q2]
        exact ⟨q1, (q4 hl).2, (q4 hl).1⟩
    · rw [hK y hyx] at hy
      obtain ⟨p, b, w1, w2, w3, w4, w5, w6, w7, w8⟩ := h.par hy0 hy
      have hpx : p ≠ o + l := by intro q; rw [q] at w4; omega
      have hOp : (putC z c o l k e U X).O p = z.O p := by
        by_cases q : p = c
        · subst q
          rw [hOc]; rcases p7 with p7 | p7 <;> omega
        · exact hO p q
      refine ⟨p, b, by rw [hP y hyx, w1], by rw [hB y hyx, w2], w3, by rw [hK p hpx]; exact w4, by rw [hOp]; exact w5, by rw [hOp]; exact w6, by rw [hD y hyx, hD p hpx]; exact w7, fun hb => ?_⟩
      have := w8 hb
      obtain ⟨-, e', he', h40, hu⟩ := h.leaf this.1
      refine ⟨by rw [hK y hyx]; exact this.1, this.2.1, ?_⟩
      rw [hE y hyx, he', Nat.add_sub_cancel]
      show X e' = []
      rw [a3 e' hu]
      have := this.2.2
      rwa [he', Nat.add_sub_cancel] at this
  · intro y hy
    by_cases hyx : y = o + l
    · subst hyx
      rw [hKx] at hy
      rcases a4 with q | ⟨q1, p, q2, q3, q4, q5⟩
      · omega
      · refine ⟨hOx, p, by rw [hEx]; exact q2, q3, ?_⟩
        show U p ≠ 0
        rw [a2 p, if_pos ⟨q1, q2⟩]; omega
    · rw [hK y hyx] at hy
      obtain ⟨b1, e', he', h40, hu⟩ := h.leaf hy
      have hyc : y ≠ c := by intro q; rw [q] at hy; omega
      exact ⟨by rw [hO y hyc]; exact b1, e', by rw [hE y hyx]; exact he', h40, hUU e' hu⟩
  · intro y hy
    by_cases hyx : y = o + l
    · subst hyx
      rw [hKx] at hy
      rcases a4 with ⟨q1, q2, q3, q4⟩ | ⟨q1, -⟩
      · refine ⟨by rw [hEx]; exact q2, by rw [hOx]; omega, by rw [fu_eq]; exact q4, fun q => ?_⟩
        rw [hOx] at q; omega
      · omega
    · rw [hK y hyx] at hy
      have hin := h.inn hy
      rw [hE y hyx, hD y hyx]
      by_cases hyc : y = c
      · subst hyc
        refine ⟨hin.1, by rw [hOc]; exact p4, hin.2.2.1, fun _ => ⟨l, p2, ?_⟩⟩
        rw [c1]; omega
      · rw [hO y hyc]
        refine ⟨hin.1, hin.2.1, hin.2.2.1, fun q => ?_⟩
        obtain ⟨b, hb, hcb⟩ := hin.2.2.2 q
        exact ⟨b, hb, by rw [c2 y b hyx (fun q => hyc q.1)]; exact hcb⟩
  · intro y
    by_cases hyx : y = o + l
    · rw [hyx, hKx]; exact hk3
    · rw [hK y hyx]; exact h.k3 y
  · intro y hy hb
    by_cases hyx : y = o + l
    · subst hyx
      rw [hKx] at hy
      rw [hBx] at hb
      rcases a4 with q | ⟨q1, p, q2, q3, q4, q5⟩
      · omega
      · rw [fu_eq, hEx, q2, Nat.add_sub_cancel]
        exact q5 (by omega)
    · rw [hK y hyx] at hy
      rw [hB y hyx] at hb
      obtain ⟨b1, e', he', h40, hu⟩ := h.leaf hy
      have := h.len hy hb
      rw [hD y hyx, hE y hyx, he', Nat.add_sub_cancel]
      rw [he', Nat.add_sub_cancel] at this
      show D y + (X e').length ≤ 12
      rw [a3 e' hu]; exact this
  · intro q
    show U q = _
    rw [a2 q, h.uses q]
    have := sm_upd (f := fun y => if (putC z c o l k e U X).K y = 2 ∧ (putC z c o l k e U X).E y = q + 1 then 1 else 0) (g := fun y => if z.K y = 2 ∧ z.E y = q + 1 then 1 else 0) (n := 160) (k := o + l) p5 (fun y _ hy => by
      show (if (putC z c o l k e U X).K y = 2 ∧ (putC z c o l k e U X).E y = q + 1 then 1 else 0) = _
      rw [hK y hy, hE y hy])
    have e1 : (if z.K (o + l) = 2 ∧ z.E (o + l) = q + 1 then 1 else 0) = 0 := if_neg (fun b => by omega)
    have e2 : (if (putC z c o l k e U X).K (o + l) = 2 ∧ (putC z c o l k e U X).E (o + l) = q + 1 then 1 else 0) = if k = 2 ∧ e = q + 1 then 1 else 0 := by rw [hKx, hEx]
    simp only [e1, e2] at this
    omega
theorem put_chain {z : Sz} {D : Nat → Nat} (h : WF z D) {c o l k e : Nat} {U : Nat → Nat} {X : Nat → List Nat} (hp : PutOk z c o l) (h' : WF (putC z c o l k e U X) (fu D (o + l) (D c + 1))) (hk : k ≠ 0) : (∀ y, z.K y ≠ 0 → chain (putC z c o l k e U X) (fu D (o + l) (D c + 1)) y = chain z D y) ∧ chain (putC z c o l k e U X) (fu D (o + l) (D c + 1)) (o + l) = (o + l) :: chain z D c := by
  obtain ⟨p1, p2, p3, p4, p5, p6, p7⟩ := hp
  have hyx : ∀ y, z.K y ≠ 0 → y ≠ o + l := fun y hy q => hy (by rw [q]; exact p6)
  have h1 : ∀ y, z.K y ≠ 0 → chain (putC z c o l k e U X) (fu D (o + l) (D c + 1)) y = chain z D y := by
    refine wf_up h _ (by rw [chain_0 h, chain_0 h']) ?_
    intro y hy0 hy ih
    obtain ⟨p, b, w1, w2, w3, w4, w5, w6, w7, w8⟩ := h.par hy0 hy
    have hK' : (putC z c o l k e U X).K y ≠ 0 := by
      show fu z.K (o + l) k y ≠ 0
      rw [fu_ne _ _ (hyx y hy)]; exact hy
    have hP' : (putC z c o l k e U X).P y = z.P y := fu_ne _ _ (hyx y hy)
    rw [chain_s h hy0 hy, chain_s h' hy0 hK', hP', show z.P y - 1 = p by omega, ih p w1 w4 w7]
  refine ⟨h1, ?_⟩
  have hK' : (putC z c o l k e U X).K (o + l) ≠ 0 := by
    show fu z.K (o + l) k (o + l) ≠ 0
    rw [fu_eq]; exact hk
  have hP' : (putC z c o l k e U X).P (o + l) = c + 1 := fu_eq _ _ _
  rw [chain_s h' (by omega) hK', hP', Nat.add_sub_cancel, h1 c (by omega)]
theorem put_W {z : Sz} {D : Nat → Nat} (h : WF z D) {c o l k e : Nat} {U : Nat → Nat} {X : Nat → List Nat} (hp : PutOk z c o l) (h' : WF (putC z c o l k e U X) (fu D (o + l) (D c + 1))) (hk : k ≠ 0) (a : Nat) : Wz (putC z c o l k e U X) (fu D (o + l) (D c + 1)) a = Wz z D a + if k = 2 ∧ (a = o + l ∨ a ∈ chain z D c) then 1 else 0 := by
  obtain ⟨h1, h2⟩ := put_chain h hp h' hk
  have := sm_upd (f := fun y => if (putC z c o l k e U X).K y = 2 ∧ a ∈ chain (putC z c o l k e U X) (fu D (o + l) (D c + 1)) y then 1 else 0) (g := fun y => if z.K y = 2 ∧ a ∈ chain z D y then 1 else 0) (n := 160) (k := o + l) hp.2.2.2.2.1 (fun y _ hy => by
    have hK : (putC z c o l k e U X).K y = z.K y := fu_ne _ _ hy
    show (if (putC z c o l k e U X).K y = 2 ∧ _ then 1 else 0) = _
    rw [hK]
    by_cases e1 : z.K y = 2
    · rw [h1 y (by omega)]
    · rw [if_neg (fun b => e1 b.1), if_neg (fun b => e1 b.1)])
  have e1 : (if z.K (o + l) = 2 ∧ a ∈ chain z D (o + l) then 1 else 0) = 0 := if_neg (fun b => by have := hp.2.2.2.2.2.1; omega)
  have e2 : (if (putC z c o l k e U X).K (o + l) = 2 ∧ a ∈ chain (putC z c o l k e U X) (fu D (o + l) (D c + 1)) (o + l) then 1 else 0) = if k = 2 ∧ (a = o + l ∨ a ∈ chain z D c) then 1 else 0 := by
    have hK : (putC z c o l k e U X).K (o + l) = k := fu_eq _ _ _
    rw [hK, h2]
    simp only [List.mem_cons]
  simp only [e1, e2] at this
  rw [Wz, Wz]
  omega
/-! the letters of a cell's way from the root -/
def pw (z : Sz) : Nat → Nat → List Nat
  | 0, _ => []
  | f + 1, c => if z.P c = 0 then [] else pw z f (z.P c - 1) ++ (if z.B c = 1 then [] else [z.B c - 1])
def Pl (z : Sz) (D : Nat → Nat) (c : Nat) : List Nat := pw z (D c) c
theorem Pl_0 {z : Sz} {D : Nat → Nat} (h : WF z D) : Pl z D 0 = [] := by rw [Pl, h.root.2.2.2]; rfl
theorem Pl_s {z : Sz} {D : Nat → Nat} (h : WF z D) {c p l : Nat} (h0 : c ≠ 0) (hk : z.K c ≠ 0) (hp : z.P c = p + 1) (hb : z.B c = l + 1) : Pl z D c = Pl z D p ++ if l = 0 then [] else [l] := by
  obtain ⟨p', l', w1, w2, w3, w4, w5, w6, w7, w8⟩ := h.par h0 hk
  have : p' = p := by omega
  subst this
  rw [Pl, w7, pw, if_neg (by omega), show z.P c - 1 = p' by omega, hb, Nat.add_sub_cancel, Pl]
  by_cases e : l = 0
  · rw [if_pos e, if_pos (by omega)]
  · rw [if_neg e, if_neg (by omega)]
theorem Pl_ch {z : Sz} {D : Nat → Nat} (h : WF z D) {c l : Nat} (hc : ch z c l ≠ 0) (u : List Nat) : Pl z D (ch z c l) ++ u = Pl z D c ++ pre l u := by
  have h1 := h.chp hc
  rw [Pl_s h hc h1.1 h1.2.1 h1.2.2.1]
  cases l with
  | zero => rw [if_pos rfl, List.append_nil]; rfl
  | succ l => rw [if_neg (by omega), List.append_assoc]; rfl
/-- the words of a table -/
def Hw (z : Sz) (D : Nat → Nat) (y : Nat) (v : List Nat) : Prop := z.K y = 2 ∧ v = Pl z D y ++ z.X (z.E y - 1)
theorem T_pl {z : Sz} {D : Nat → Nat} (h : WF z D) : ∀ c, z.K c ≠ 0 → ∀ y u, (y, u) ∈ Tz z D c → Hw z D y (Pl z D c ++ u) := by
  refine wf_ind h _ ?_
  intro c hk ih y u hm
  rcases h.k12 hk with h1 | h1
  · rw [T_inner h h1, gr_mem] at hm
    obtain ⟨l, hl, q, h2, h3⟩ := hm
    by_cases hc : ch z c l = 0
    · rw [Tc_0 hc] at h2; cases h2
    · rw [Tc_1 hc] at h2
      have e1 : y = q.1 := by injection h3
      have e2 : u = pre l q.2 := by injection h3
      have := ih l hc q.1 q.2 h2
      rw [Pl_ch h hc] at this
      rw [e1, e2]; exact this
  · rw [T_leaf h h1, List.mem_singleton] at hm
    have e1 : y = c := by injection hm
    have e2 : u = z.X (z.E c - 1) := by injection hm
    rw [e1, e2]
    exact ⟨h1, rfl⟩
theorem pl_T {z : Sz} {D : Nat → Nat} (h : WF z D) : ∀ c, z.K c ≠ 0 → ∀ y u, (y, u) ∈ Tz z D c → (y, Pl z D c ++ u) ∈ Tz z D 0 := by
  refine wf_up h _ ?_ ?_
  · intro y u hm
    rw [Pl_0 h]; exact hm
  · intro c h0 hk ih y u hm
    obtain ⟨p, l, w1, w2, w3, w4, w5, w6, w7, w8⟩ := h.par h0 hk
    have e := h.ch_of h0 hk w1 w2
    have hc : ch z p l ≠ 0 := by rw [e]; exact h0
    have h1 := Pl_ch h hc u
    rw [e] at h1
    rw [h1]
    refine ih p w1 w4 w7 y (pre l u) ?_
    rw [T_inner h w4, gr_mem]
    refine ⟨l, w3, (y, u), ?_, rfl⟩
    rw [Tc_1 hc, e]; exact hm
theorem Hw_T {z : Sz} {D : Nat → Nat} (h : WF z D) {y : Nat} {v : List Nat} : Hw z D y v ↔ (y, v) ∈ Tz z D 0 := by
  constructor
  · rintro ⟨h1, rfl⟩
    refine pl_T h y (by omega) y _ ?_
    rw [T_leaf h h1]
    exact List.mem_singleton.mpr rfl
  · intro hm
    have := T_pl h 0 (by rw [h.root.1]; omega) y v hm
    rwa [Pl_0 h] at this
theorem Pl_len {z : Sz} {D : Nat → Nat} (h : WF z D) : ∀ c, z.K c ≠ 0 → (z.B c ≠ 1 → (Pl z D c).length = D c) ∧ (∀ l ∈ Pl z D c, 1 ≤ l ∧ l ≤ 8) := by
  refine wf_up h _ ?_ ?_
  · rw [Pl_0 h, h.root.2.2.2]
    exact ⟨fun _ => rfl, fun l hl => nomatch hl⟩
  · intro c h0 hk ih
    obtain ⟨p, l, w1, w2, w3, w4, w5, w6, w7, w8⟩ := h.par h0 hk
    have hpb : z.B p ≠ 1 := by
      intro hb
      by_cases hp0 : p = 0
      · subst hp0; have := h.root.2.2.1; omega
      · obtain ⟨p', l', v1, v2, v3, v4, v5, v6, v7, v8⟩ := h.par hp0 (by omega)
        have := (v8 (by omega)).1
        omega
    obtain ⟨i1, i2⟩ := ih p w1 w4 w7
    rw [Pl_s h h0 hk w1 w2]
    constructor
    · intro hb
      rw [if_neg (by omega), List.length_append, i1 hpb, List.length_singleton, w7]
    · intro x hx
      rcases List.mem_append.mp hx with hx | hx
      · exact i2 x hx
      · by_cases e : l = 0
        · rw [if_pos e] at hx; cases hx
        · rw [if_neg e, List.mem_singleton] at hx; omega
theorem put_Pl {z : Sz} {D : Nat → Nat} (h : WF z D) {c o l k e : Nat} {U : Nat → Nat} {X : Nat → List Nat} (hp : PutOk z c o l) (h' : WF (putC z c o l k e U X) (fu D (o + l) (D c + 1))) (hk : k ≠ 0) : (∀ y, z.K y ≠ 0 → Pl (putC z c o l k e U X) (fu D (o + l) (D c + 1)) y = Pl z D y) ∧ Pl (putC z c o l k e U X) (fu D (o + l) (D c + 1)) (o + l) = Pl z D c ++ if l = 0 then [] else [l] := by
  obtain ⟨p1, p2, p3, p4, p5, p6, p7⟩ := hp
  have hyx : ∀ y, z.K y ≠ 0 → y ≠ o + l := fun y hy q => hy (by rw [q]; exact p6)
  have h1 : ∀ y, z.K y ≠ 0 → Pl (putC z c o l k e U X) (fu D (o + l) (D c + 1)) y = Pl z D y := by
    refine wf_up h _ (by rw [Pl_0 h, Pl_0 h']) ?_
    intro y hy0 hy ih
    obtain ⟨p, b, w1, w2, w3, w4, w5, w6, w7, w8⟩ := h.par hy0 hy
    have hK' : (putC z c o l k e U X).K y ≠ 0 := by
      show fu z.K (o + l) k y ≠ 0
      rw [fu_ne _ _ (hyx y hy)]; exact hy
    have hP' : (putC z c o l k e U X).P y = p + 1 := by
      show fu z.P (o + l) (c + 1) y = p + 1
      rw [fu_ne _ _ (hyx y hy)]; exact w1
    have hB' : (putC z c o l k e U X).B y = b + 1 := by
      show fu z.B (o + l) (l + 1) y = b + 1
      rw [fu_ne _ _ (hyx y hy)]; exact w2
    rw [Pl_s h hy0 hy w1 w2, Pl_s h' hy0 hK' hP' hB', ih p w1 w4 w7]
  refine ⟨h1, ?_⟩
  have hK' : (putC z c o l k e U X).K (o + l) ≠ 0 := by
    show fu z.K (o + l) k (o + l) ≠ 0
    rw [fu_eq]; exact hk
  have hP' : (putC z c o l k e U X).P (o + l) = c + 1 := fu_eq _ _ _
  have hB' : (putC z c o l k e U X).B (o + l) = l + 1 := fu_eq _ _ _
  rw [Pl_s h' (by omega) hK' hP' hB', h1 c (by omega)]
