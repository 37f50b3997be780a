/-! the model: a child, an offset, a leaf -/
theorem fu_fu {α : Type} (f : Nat → α) (i : Nat) (v w : α) : fu (fu f i v) i w = fu f i w := by
  funext j
  by_cases e : j = i
  · rw [e, fu_eq, fu_eq]
  · rw [fu_ne _ _ e, fu_ne _ _ e, fu_ne _ _ e]
theorem fu_comm {α : Type} (f : Nat → α) {i j : Nat} (v w : α) (h : i ≠ j) : fu (fu f i v) j w = fu (fu f j w) i v := by
  funext k
  by_cases e : k = j
  · rw [e, fu_eq, fu_ne _ _ (fun q => h q.symm), fu_eq]
  · rw [fu_ne _ _ e]
    by_cases e2 : k = i
    · rw [e2, fu_eq, fu_eq]
    · rw [fu_ne _ _ e2, fu_ne _ _ e2, fu_ne _ _ e]
def Az (t t' : MS) : Prop := ∃ f g n, t' = sMLn (sMOl (sMZ t f) g) n
theorem Az.refl (t : MS) : Az t t := ⟨mZ t, mOl t, mLn t, rfl⟩
theorem Az.z {t t' : MS} (h : Az t t') (f : Nat → Int32) : Az t (sMZ t' f) := by
  obtain ⟨f', g, n, rfl⟩ := h
  exact ⟨f, g, n, rfl⟩
theorem Az.ln {t t' : MS} (h : Az t t') (x : Int32) : Az t (sMLn t' x) := by
  obtain ⟨f', g, n, rfl⟩ := h
  exact ⟨f', g, x, rfl⟩
theorem Az.ol {t t' : MS} (h : Az t t') (x : Nat → Int32) : Az t (sMOl t' x) := by
  obtain ⟨f', g, n, rfl⟩ := h
  exact ⟨f', x, n, rfl⟩
theorem Az.trans {t t' t'' : MS} (h : Az t t') (h' : Az t' t'') : Az t t'' := by
  obtain ⟨f, g, n, rfl⟩ := h
  obtain ⟨f', g', n', rfl⟩ := h'
  exact ⟨f', g', n', rfl⟩
/-- rows that do not change when a word is added -/
def Ap2 (ra : MS → Nat → Int32) : Prop := ∀ t f g n, ra (sMLn (sMOl (sMZ t f) g) n) = ra t
theorem Ap2.a {ra : MS → Nat → Int32} (h : Ap2 ra) : Ap ra := fun t f => h t f (mOl t) (mLn t)
theorem Ap2.r {ra : MS → Nat → Int32} (h : Ap2 ra) {t t' : MS} (ha : Az t t') : ra t' = ra t := by
  obtain ⟨f, g, n, rfl⟩ := ha
  exact h t f g n
theorem i640 (a : Nat) : (640 : Int32) + nI a = nI (640 + a) := by rw [show (640 : Int32) = nI 640 by rfl, nI_add]
theorem i480 (a : Nat) : (480 : Int32) + nI a = nI (480 + a) := by rw [show (480 : Int32) = nI 480 by rfl, nI_add]
theorem i0 (a : Nat) : (0 : Int32) + nI a = nI a := by rw [← nI_0, nI_add, Nat.zero_add]
theorem z_putChild {z : Sz} {t : MS} (h : Mz z (mZ t)) {c o l k : Nat} (hc : c < 160) (ho : z.O c = o) (hx : o + l < 160) (hO : z.O (o + l) = 0) {kk : Int32} (hk : kk = nI k) :
    ∃ f, fM_putChild (nI c) (nI l) kk t = some (nI (o + l), sMZ t f) ∧ Mz (sE (sB (sP (sK z (fu z.K (o + l) k)) (fu z.P (o + l) (c + 1))) (fu z.B (o + l) (l + 1))) (fu z.E (o + l) 0)) f := by
  subst hk
  have m5 := Mz_E (Mz_O (Mz_B (Mz_P (Mz_K h hx k) hx (c + 1)) hx (l + 1)) hx 0) hx 0
  rw [eI_s, eI_s] at m5
  refine ⟨upd (upd (upd (upd (upd (mZ t) (o + l) (nI k)) (160 + (o + l)) (nI c)) (320 + (o + l)) (nI l)) (480 + (o + l)) 0) (640 + (o + l)) (-1), ?_, ?_⟩
  · unfold fM_putChild
    rw [z_offset h hc]
    simp only [Option.bind_some]
    rw [gw_let, ho, nI_add, i0, i160, i320, i480, i640]
    rw [if_pos (inb_nI (by omega) (by omega)), gw_let, if_pos (inb_nI (by omega) (by omega)), gw_let, if_pos (inb_nI (by omega) (by omega)), gw_let, if_pos (inb_nI (by omega) (by omega)), gw_let, if_pos (inb_nI (by omega) (by omega)), gw_let, upd_nI _ (by omega), upd_nI _ (by omega), upd_nI _ (by omega), upd_nI _ (by omega), upd_nI _ (by omega)]
  · have e : sE (sO (sB (sP (sK z (fu z.K (o + l) k)) (fu z.P (o + l) (c + 1))) (fu z.B (o + l) (l + 1))) (fu z.O (o + l) 0)) (fu z.E (o + l) 0) = sE (sB (sP (sK z (fu z.K (o + l) k)) (fu z.P (o + l) (c + 1))) (fu z.B (o + l) (l + 1))) (fu z.E (o + l) 0) := by
      rw [fu_same hO]; rfl
    rw [← e]
    exact m5
theorem z_open {z : Sz} {t : MS} (hs : Sm z) (h : Mz z (mZ t)) {c m : Nat} (hc : c < 160) (hm : m < 512) : (lst z m = 0 → fM_open (nI c) (nI m) t = some (0, t)) ∧ (lst z m ≠ 0 → ∃ f, fM_open (nI c) (nI m) t = some (1, sMZ t f) ∧ Mz (sO z (fu z.O c (lst z m))) f) := by
  have hol := lst_lt z m
  constructor
  · intro e
    unfold fM_open
    rw [z_leastOffset hs h hm, e, nz_0]
    simp only [Option.bind_some]
    rw [gw_let]
    try dsimp only
    simp
  · intro e
    refine ⟨upd (mZ t) (480 + c) (nI (lst z m)), ?_, Mz_O h hc (lst z m)⟩
    unfold fM_open
    rw [z_leastOffset hs h hm, nz_1 e]
    simp only [Option.bind_some]
    rw [gw_let]
    try dsimp only
    rw [if_neg (nI_m1 (by omega)), i480, if_pos (inb_nI (by omega) (by omega)), gw_let]
    try dsimp only
    rw [if_neg (nI_m1 (by omega)), upd_nI _ (by omega)]
/-- a leaf put without its end yet, then with it -/
theorem hang_z {z : Sz} {c o l p : Nat} {r : List Nat} : sE (sX (sE (sB (sP (sK (sO z (fu z.O c o)) (fu z.K (o + l) 2)) (fu z.P (o + l) (c + 1))) (fu z.B (o + l) (l + 1))) (fu z.E (o + l) 0)) (gU z.U p) (gX z.X p r)) (fu (fu z.E (o + l) 0) (o + l) (p + 1)) = putC z c o l 2 (p + 1) (gU z.U p) (gX z.X p r) := by
  rw [fu_fu]; rfl
theorem z_addLeaf {z : Sz} {D : Nat → Nat} {t : MS} (h : WF z D) (hz : Mz z (mZ t)) {ra : MS → Nat → Int32} (hA : Ap2 ra) {w : List Nat} (hw : okw w) (hr : Rw (ra t) w) {c k : Nat} (hcK : z.K c = 1) (hk : k ≤ 12) (hch : ch z c (hd0 (w.drop k)) = 0) :
    Gd (fun o => Az t o.2 ∧ ((match roomS z c (hd0 (w.drop k)) with | none => none | some (c', z2, off) => hangS z2 c' off (hd0 (w.drop k)) (w.drop k).tail) = none → o.1 = 2) ∧ ∀ x zf, (match roomS z c (hd0 (w.drop k)) with | none => none | some (c', z2, off) => hangS z2 c' off (hd0 (w.drop k)) (w.drop k).tail) = some (x, zf) → o.1 = 0 ∧ Mz zf (mZ o.2) ∧ mLn o.2 = nI x) (fM_addLeaf ra (nI c) (nI (hd0 (w.drop k))) (nI k) (nI w.length) t) := by
  have hs := h.sml
  have hc := h.lt (c := c) (by omega)
  have hl := hd0_lt (okw_drop hw k).2
  have hOc := (h.inn hcK).2.1
  have hw12 := hw.1
  have htail : (w.drop k).tail = w.drop (k + 1) := List.tail_drop
  unfold fM_addLeaf
  rw [z_offset hz hc]
  simp only [Option.bind_some]
  rw [gw_let]
  try dsimp only
  -- behind the room
  have key : ∀ c' z2 off f, roomS z c (hd0 (w.drop k)) = some (c', z2, off) → Mz (sO z2 (fu z2.O c' off)) f →
      Gd (fun o => Az t o.2 ∧ ((match roomS z c (hd0 (w.drop k)) with | none => none | some (c', z2, off) => hangS z2 c' off (hd0 (w.drop k)) (w.drop k).tail) = none → o.1 = 2) ∧ ∀ x zf, (match roomS z c (hd0 (w.drop k)) with | none => none | some (c', z2, off) => hangS z2 c' off (hd0 (w.drop k)) (w.drop k).tail) = some (x, zf) → o.1 = 0 ∧ Mz zf (mZ o.2) ∧ mLn o.2 = nI x)
        ((fM_putChild (nI c') (nI (hd0 (w.drop k))) (2 : Int32) (sMZ t f)).bind fun q9 =>
   gw_let (sMLn q9.2 q9.1) fun t10 =>
   gw_let (α := Int32 → Option (Int32 × MS)) (fun v11 =>
    (fM_giveEnd ra (mLn t10) v11 (nI w.length) t10).bind fun q13 =>
    if q13.1 = 0 then
     some ((2 : Int32), q13.2)
    else
     some ((0 : Int32), q13.2)
   ) fun j11 =>
   if (nI w.length) ≤ (nI k) then
    j11 (nI w.length)
   else
    j11 ((nI k) + (1 : Int32))) := by
    intro c' z2 off f hR hf
    obtain ⟨φ, ψ, i1, i2, i3, i4⟩ := room_ok h hcK hl hch hR
    have h2 := iso_wf h i1
    have hs2 := h2.sml
    have hc' := h2.lt (c := c') (by have := i3.1; omega)
    have hO0 : (sO z2 (fu z2.O c' off)).O (off + hd0 (w.drop k)) = 0 := by
      show fu z2.O c' off (off + hd0 (w.drop k)) = 0
      rw [fu_ne _ _ (by intro q; have := i3.2.2.2.2.2.1; rw [q] at this; have := i3.1; omega)]
      exact (h2.free i3.2.2.2.2.2.1).2.2.1
    rw [hR]
    obtain ⟨f1, e1, m1⟩ := z_putChild (t := sMZ t f) (l := hd0 (w.drop k)) hf hc' (fu_eq _ _ _) i3.2.2.2.2.1 hO0 (k := 2) (kk := 2) rfl
    rw [e1]
    simp only [Option.bind_some]
    rw [gw_let]
    try dsimp only
    rw [gw_let]
    try dsimp only
    have hsm : Sm (sE (sB (sP (sK (sO z2 (fu z2.O c' off)) (fu z2.K (off + hd0 (w.drop k)) 2)) (fu z2.P (off + hd0 (w.drop k)) (c' + 1))) (fu z2.B (off + hd0 (w.drop k)) (hd0 (w.drop k) + 1))) (fu z2.E (off + hd0 (w.drop k)) 0)) :=
      Sm_E (Sm_B (Sm_P (Sm_K (Sm_O hs2 (fu_bd hs2.o i3.2.2.2.1)) (fu_bd hs2.k (by omega))) (fu_bd hs2.p (by omega))) (fu_bd hs2.b (by omega))) (fu_bd hs2.e (by omega))
    have hgive : ∀ v : Int32, v = nI (min (k + 1) w.length) → Gd (fun o => Az t o.2 ∧ (hangS z2 c' off (hd0 (w.drop k)) (w.drop k).tail = none → o.1 = 2) ∧ ∀ x zf, hangS z2 c' off (hd0 (w.drop k)) (w.drop k).tail = some (x, zf) → o.1 = 0 ∧ Mz zf (mZ o.2) ∧ mLn o.2 = nI x) ((fM_giveEnd ra (nI (off + hd0 (w.drop k))) v (nI w.length) (sMLn (sMZ (sMZ t f) f1) (nI (off + hd0 (w.drop k))))).bind fun q13 => if q13.1 = 0 then some ((2 : Int32), q13.2) else some ((0 : Int32), q13.2)) := by
      intro v hv
      subst hv
      have hdrop : w.drop (min (k + 1) w.length) = (w.drop k).tail := by
        rw [htail]
        by_cases e : k + 1 ≤ w.length
        · rw [Nat.min_eq_left e]
        · rw [Nat.min_eq_right (by omega), List.drop_eq_nil_of_le (Nat.le_refl _), List.drop_eq_nil_of_le (by omega)]
      have hr' : Rw (ra (sMLn (sMZ (sMZ t f) f1) (nI (off + hd0 (w.drop k))))) w := by
        rw [show ra (sMLn (sMZ (sMZ t f) f1) (nI (off + hd0 (w.drop k)))) = ra t from hA t f1 (mOl t) _]; exact hr
      refine gd_bind (z_giveEnd hsm h2.e (t := sMLn (sMZ (sMZ t f) f1) (nI (off + hd0 (w.drop k)))) m1 hA.a hw hr' (a := min (k + 1) w.length) (Nat.min_le_right _ _) (c := off + hd0 (w.drop k)) i3.2.2.2.2.1) ?_
      rintro q ⟨q1, q2⟩
      rw [hdrop] at q1 q2
      have haz : Az t (sMLn (sMZ (sMZ t f) f1) (nI (off + hd0 (w.drop k)))) := ((Az.refl t).z f1).ln _
      by_cases ep : plc z2.U z2.X (w.drop k).tail = 0
      · have hS : hangS z2 c' off (hd0 (w.drop k)) (w.drop k).tail = none := by rw [hangS, if_pos ep]
        rw [q1 ep, if_pos rfl]
        exact gd_some ⟨haz, fun _ => rfl, fun x zf q => by rw [hS] at q; cases q⟩
      · obtain ⟨p, hpp⟩ : ∃ p, plc z2.U z2.X (w.drop k).tail = p + 1 := ⟨plc z2.U z2.X (w.drop k).tail - 1, by omega⟩
        have hS : hangS z2 c' off (hd0 (w.drop k)) (w.drop k).tail = some (off + hd0 (w.drop k), putC z2 c' off (hd0 (w.drop k)) 2 (p + 1) (gU z2.U p) (gX z2.X p (w.drop k).tail)) := by rw [hangS, if_neg ep, hpp, Nat.add_sub_cancel]
        obtain ⟨f3, e3, m3⟩ := q2 p hpp
        rw [e3]
        try dsimp only
        rw [if_neg (by decide)]
        refine gd_some ⟨haz.z f3, fun q => (by rw [hS] at q; cases q), fun x zf q => ?_⟩
        rw [hS] at q
        obtain ⟨v1, v2⟩ := Prod.mk.inj (Option.some.inj q)
        rw [← v1, ← v2, ← hang_z]
        exact ⟨rfl, m3, rfl⟩
    by_cases e2 : w.length ≤ k
    · rw [if_pos (nI_le e2 (by omega))]
      exact hgive _ (by rw [Nat.min_eq_right (by omega)])
    · rw [if_neg (nI_ge (by omega) (by omega)), nI_1]
      exact hgive _ (by rw [Nat.min_eq_left (by omega)])
  have hl2 : 2 ^ hd0 (w.drop k) < 512 := Nat.pow_lt_pow_right (n := 9) (by omega) hl
  by_cases e0 : z.O c = 0
  · rw [if_pos (show nI (z.O c) = 0 by rw [e0]; rfl), shl_e _ hl]
    obtain ⟨o1, o2⟩ := z_open hs hz hc hl2
    by_cases e1 : lst z (2 ^ hd0 (w.drop k)) = 0
    · have hR : roomS z c (hd0 (w.drop k)) = none := by rw [roomS, if_pos e0, if_pos e1]
      rw [o1 e1]
      simp only [Option.bind_some]
      rw [gw_let]
      try dsimp only
      first | rw [if_pos rfl] | rw [if_pos trivial]
      try dsimp only
      first | rw [if_pos rfl] | rw [if_pos trivial]
      rw [hR]
      exact gd_some ⟨Az.refl t, fun _ => rfl, fun x zf q => by cases q⟩
    · have hR : roomS z c (hd0 (w.drop k)) = some (c, z, lst z (2 ^ hd0 (w.drop k))) := by rw [roomS, if_pos e0, if_neg e1]
      obtain ⟨f, e2, m2⟩ := o2 e1
      rw [e2]
      simp only [Option.bind_some]
      rw [gw_let]
      try dsimp only
      rw [if_neg (by decide)]
      try dsimp only
      rw [if_neg (nI_m1 (by omega))]
      exact key _ _ _ _ hR m2
  · rw [if_neg (nI_ne0 (by omega) (by omega))]
    refine gd_bind (z_makeRoom h hz hcK hl hch e0) ?_
    rintro q ⟨q1, q2⟩
    cases hR : roomS z c (hd0 (w.drop k)) with
    | none =>
      rw [q1 hR]
      try dsimp only
      rw [if_pos rfl]
      exact gd_some ⟨Az.refl t, fun _ => rfl, fun x zf q => by cases q⟩
    | some v =>
      obtain ⟨c', z2, off⟩ := v
      obtain ⟨f, e2, m2⟩ := q2 c' z2 off hR
      rw [e2]
      obtain ⟨φ, ψ, i1, i2, i3, i4⟩ := room_ok h hcK hl hch hR
      have h2 := iso_wf h i1
      have hc' := h2.lt (c := c') (by have := i3.1; omega)
      try dsimp only
      rw [if_neg (nI_m1 (by omega))]
      have := key c' z2 off f hR (by rw [fu_same (i4 e0)]; exact m2)
      rw [hR] at this
      exact this
