/-! the class's object and the model's, side by side -/
def Rq (z : Sz) (D : Nat → Nat) (w : List Nat) (n : Nat) (q : QS) (m : MS) : Prop :=
  WF z D ∧ Ht z (Wz z D) (qT q) ∧ Mz z (mZ m) ∧ okw w ∧ qB q = lN (enc w) ∧ qL q = nI w.length ∧ Rw (mBu m) w ∧ mTy m = nI w.length ∧ qN q = nI n ∧ mSm m = nI n ∧ n ≤ 6
def Sv (n : Nat) (v : VS) (sv : Nat → Int32) : Prop := ∀ i, i < n → ∃ z D, WF z D ∧ Ht z (Wz z D) (v.2 i) ∧ Mz z (fun j => sv (i * 1361 + j))
def Rl (q : PS) (m : MS) : Prop := ∃ z D w n, Rq z D w n q.1 m ∧ Sv n q.2 (mSv m)
/-- what a look leaves as it was -/
def Bz (t t' : MS) : Prop := mT t' = mT t ∧ mSv t' = mSv t ∧ mSm t' = mSm t ∧ mBu t' = mBu t ∧ mTy t' = mTy t ∧ mH t' = mH t
theorem Bz.refl (t : MS) : Bz t t := ⟨rfl, rfl, rfl, rfl, rfl, rfl⟩
theorem Bz.trans {t t' t'' : MS} (h : Bz t t') (h' : Bz t' t'') : Bz t t'' :=
  ⟨h'.1.trans h.1, h'.2.1.trans h.2.1, h'.2.2.1.trans h.2.2.1, h'.2.2.2.1.trans h.2.2.2.1, h'.2.2.2.2.1.trans h.2.2.2.2.1, h'.2.2.2.2.2.trans h.2.2.2.2.2⟩
theorem Pz.bz {t t' : MS} (h : Pz t t') : Bz t t' := ⟨h.1, h.2.1, h.2.2.1, h.2.2.2.2.1, h.2.2.2.2.2.1, h.2.2.2.2.2.2⟩
theorem Lz.bz {t t' : MS} (h : Lz t t') : Bz t t' := h.pz.bz
theorem Az.bz {t t' : MS} (h : Az t t') : Bz t t' := h.pz.bz
theorem Mz_congr {z : Sz} {r r' : Nat → Int32} (h : Mz z r) (e : ∀ j, j < 1361 → r' j = r j) : Mz z r' := by
  refine ⟨fun c hc => ?_, fun c hc => ?_, fun c hc => ?_, fun c hc => ?_, fun c hc => ?_, fun p hp => ?_, fun p hp => ?_, fun p i hp hi => ?_, ?_⟩
  · rw [e _ (by omega)]; exact h.k c hc
  · rw [e _ (by omega)]; exact h.p c hc
  · rw [e _ (by omega)]; exact h.b c hc
  · rw [e _ (by omega)]; exact h.o c hc
  · rw [e _ (by omega)]; exact h.e c hc
  · rw [e _ (by omega)]; exact h.u p hp
  · rw [e _ (by omega)]; exact h.n p hp
  · rw [e _ (by omega)]; exact h.x p i hp hi
  · rw [e _ (by omega)]; exact h.m
theorem z_putAside (t : MS) : Gd (fun t' => ∃ f, t' = sMSp t f ∧ ∀ j, j < 1361 → f j = mZ t j) (fM_putAside t) := by
  unfold fM_putAside
  refine gd_bind (P := fun t' => ∃ f, t' = sMSp t f ∧ ∀ j, j < 1361 → f j = mZ t j) ?_ (fun a ha => gd_some ha)
  refine gd_lp (fun k y => ∃ f, y = (nI k, sMSp t f) ∧ ∀ j, j < k → f j = mZ t j) 1361 ⟨mSp t, rfl, fun j hj => absurd hj (Nat.not_lt_zero j)⟩ ?_ (by omega)
  rintro k y hk ⟨f, rfl, h1⟩
  try dsimp only
  by_cases e : k = 1361
  · subst e
    rw [if_pos (show (1361 : Int32) ≤ nI 1361 by decide)]
    exact gd_inl ⟨f, rfl, h1⟩
  · rw [if_neg (show ¬ (1361 : Int32) ≤ nI k from nI_ge (b := 1361) (by omega) (by omega)), if_pos (inb_nI (by omega) (by omega)), if_pos (inb_nI (by omega) (by omega)), gw_let, upd_nI _ (by omega), nI_1]
    refine gd_inr (by omega) ⟨_, rfl, fun j hj => ?_⟩
    by_cases ej : j = k
    · rw [ej, upd_eq, nI_clamp' (by omega)]
    · rw [upd_ne _ _ ej]; exact h1 j (by omega)
theorem z_bringBack (t : MS) : Gd (fun t' => ∃ f, t' = sMZ t f ∧ ∀ j, j < 1361 → f j = mSp t j) (fM_bringBack t) := by
  unfold fM_bringBack
  refine gd_bind (P := fun t' => ∃ f, t' = sMZ t f ∧ ∀ j, j < 1361 → f j = mSp t j) ?_ (fun a ha => gd_some ha)
  refine gd_lp (fun k y => ∃ f, y = (nI k, sMZ t f) ∧ ∀ j, j < k → f j = mSp t j) 1361 ⟨mZ t, rfl, fun j hj => absurd hj (Nat.not_lt_zero j)⟩ ?_ (by omega)
  rintro k y hk ⟨f, rfl, h1⟩
  try dsimp only
  by_cases e : k = 1361
  · subst e
    rw [if_pos (show (1361 : Int32) ≤ nI 1361 by decide)]
    exact gd_inl ⟨f, rfl, h1⟩
  · rw [if_neg (show ¬ (1361 : Int32) ≤ nI k from nI_ge (b := 1361) (by omega) (by omega)), if_pos (inb_nI (by omega) (by omega)), if_pos (inb_nI (by omega) (by omega)), gw_let, upd_nI _ (by omega), nI_1]
    refine gd_inr (by omega) ⟨_, rfl, fun j hj => ?_⟩
    by_cases ej : j = k
    · rw [ej, upd_eq, nI_clamp' (by omega)]
    · rw [upd_ne _ _ ej]; exact h1 j (by omega)
/-- the state is saved, in the model -/
theorem z_save {n : Nat} (hn : n ≤ 6) {m : MS} (hS : mSm m = nI n) : Gd (fun m' => ∃ f k, m' = sMSm (sMSv m f) (nI (k + 1)) ∧ ((n = 6 ∧ k = 5) ∨ (n < 6 ∧ k = n)) ∧ (∀ j, j < 1361 → f (k * 1361 + j) = mZ m j) ∧ (∀ i, i < k → ∀ j, j < 1361 → f (i * 1361 + j) = mSv m ((if n = 6 then i + 1 else i) * 1361 + j))) (fM_save m) := by
  have key : ∀ k f0 v1, k ≤ 5 → v1 = sMSm (sMSv m f0) (nI k) → Gd (fun m' => ∃ f, m' = sMSm (sMSv m f) (nI (k + 1)) ∧ (∀ j, j < 1361 → f (k * 1361 + j) = mZ m j) ∧ (∀ i, i < k → ∀ j, j < 1361 → f (i * 1361 + j) = f0 (i * 1361 + j)))
      ((gw_lp (σ := Int32 × MS) (ω := MS) (fun x9 =>
   if (1361 : Int32) ≤ x9.1 then
    some (.inl x9.2)
   else
    if inb x9.1 1361 then
    if inb (((mSm x9.2) * (1361 : Int32)) + x9.1) 8166 then
    gw_let (sMSv x9.2 (upd (mSv x9.2) (((mSm x9.2) * (1361 : Int32)) + x9.1).toNatClampNeg (mZ x9.2 x9.1.toNatClampNeg))) fun t13 =>
    some (.inr ((x9.1 + (1 : Int32)), t13))
    else none
    else none
  ) gw_fl ((0 : Int32), v1)).bind fun v9 =>
  gw_let (sMSm v9 ((mSm v9) + (1 : Int32))) fun t14 =>
  some t14) := by
    rintro k f0 v1 hk rfl
    refine gd_bind (P := fun m' => ∃ f, m' = sMSm (sMSv m f) (nI k) ∧ (∀ j, j < 1361 → f (k * 1361 + j) = mZ m j) ∧ (∀ i, i < k → ∀ j, j < 1361 → f (i * 1361 + j) = f0 (i * 1361 + j))) ?_ ?_
    · refine gd_lp (fun i y => ∃ f, y = (nI i, sMSm (sMSv m f) (nI k)) ∧ (∀ j, j < i → f (k * 1361 + j) = mZ m j) ∧ (∀ j, j < k * 1361 → f j = f0 j)) 1361 ⟨f0, rfl, fun j hj => absurd hj (Nat.not_lt_zero j), fun j _ => rfl⟩ ?_ (by omega)
      rintro i y hi ⟨f, rfl, h1, h2⟩
      try dsimp only
      by_cases e : i = 1361
      · subst e
        rw [if_pos (show (1361 : Int32) ≤ nI 1361 by decide)]
        refine gd_inl ⟨f, rfl, h1, fun i' hi' j hj => h2 _ ?_⟩
        have : (i' + 1) * 1361 ≤ k * 1361 := Nat.mul_le_mul_right _ hi'
        omega
      · have hx : nI k * (1361 : Int32) + nI i = nI (k * 1361 + i) := by
          rw [show (1361 : Int32) = nI 1361 by rfl, nI_mul, nI_add]
        rw [if_neg (show ¬ (1361 : Int32) ≤ nI i from nI_ge (b := 1361) (by omega) (by omega)), if_pos (inb_nI (by omega) (by omega)), if_pos (show inb (nI k * (1361 : Int32) + nI i) 8166 by rw [hx]; exact inb_nI (by omega) (by omega)), gw_let, nI_1]
        refine gd_inr (by omega) ⟨upd f (k * 1361 + i) (mZ m i), ?_, fun j hj => ?_, fun j hj => ?_⟩
        · show (nI (i + 1), sMSm (sMSv m (upd f (nI k * (1361 : Int32) + nI i).toNatClampNeg (mZ m (nI i).toNatClampNeg))) (nI k)) = _
          rw [hx, upd_nI _ (by omega), nI_clamp' (by omega)]
        · by_cases ej : j = i
          · rw [ej, upd_eq]
          · rw [upd_ne _ _ (by omega)]; exact h1 j (by omega)
        · rw [upd_ne _ _ (by omega)]; exact h2 j hj
    · rintro m' ⟨f, rfl, h1, h2⟩
      rw [gw_let]
      refine gd_some ⟨f, ?_, h1, h2⟩
      show sMSm (sMSv m f) (nI k + 1) = _
      rw [nI_1]
  unfold fM_save
  rw [gw_let, hS]
  try dsimp only
  by_cases e : n = 6
  · subst e
    rw [if_pos (show nI 6 = (6 : Int32) from rfl)]
    refine gd_bind (P := fun m' => ∃ f, m' = sMSv m f ∧ ∀ j, j < 6805 → f j = mSv m (j + 1361)) ?_ ?_
    · refine gd_lp (fun i y => ∃ f, y = (nI i, sMSv m f) ∧ (∀ j, j < i → f j = mSv m (j + 1361)) ∧ ∀ j, i ≤ j → f j = mSv m j) 6805 ⟨mSv m, rfl, fun j hj => absurd hj (Nat.not_lt_zero j), fun j _ => rfl⟩ ?_ (by omega)
      rintro i y hi ⟨f, rfl, h1, h2⟩
      try dsimp only
      by_cases e : i = 6805
      · subst e
        rw [if_pos (show (6805 : Int32) ≤ nI 6805 by decide)]
        exact gd_inl ⟨f, rfl, h1⟩
      · have hx : nI i + (1361 : Int32) = nI (i + 1361) := by rw [show (1361 : Int32) = nI 1361 by rfl, nI_add]
        rw [if_neg (show ¬ (6805 : Int32) ≤ nI i from nI_ge (b := 6805) (by omega) (by omega)), hx, if_pos (inb_nI (by omega) (by omega)), if_pos (inb_nI (by omega) (by omega)), gw_let, nI_1, upd_nI _ (by omega)]
        refine gd_inr (by omega) ⟨_, rfl, fun j hj => ?_, fun j hj => ?_⟩
        · by_cases ej : j = i
          · rw [ej, upd_eq, nI_clamp' (by omega)]
            exact h2 _ (by omega)
          · rw [upd_ne _ _ ej]; exact h1 j (by omega)
        · rw [upd_ne _ _ (by omega)]; exact h2 j (by omega)
    · rintro m' ⟨f0, rfl, h0⟩
      rw [gw_let]
      have hS' : mSm (sMSv m f0) - (1 : Int32) = nI 5 := by
        show mSm m - 1 = _
        rw [hS]; rfl
      rw [hS']
      refine gd_mono (key 5 f0 _ (by omega) rfl) ?_
      rintro m' ⟨f, rfl, h1, h2⟩
      refine ⟨f, 5, rfl, Or.inl ⟨rfl, rfl⟩, h1, fun i hi j hj => ?_⟩
      rw [h2 i hi j hj, if_pos rfl, h0 _ (by omega), show i * 1361 + j + 1361 = (i + 1) * 1361 + j by omega]
  · rw [if_neg (show ¬ nI n = (6 : Int32) from fun q => e (nI_inj (b := 6) (by omega) (by omega) q))]
    refine gd_mono (key n (mSv m) m (by omega) (by rw [← hS])) ?_
    rintro m' ⟨f, rfl, h1, h2⟩
    refine ⟨f, n, rfl, Or.inr ⟨by omega, rfl⟩, h1, fun i hi j hj => ?_⟩
    rw [h2 i hi j hj, if_neg e]
/-- the state is saved, in both -/
theorem rl_save {z : Sz} {D : Nat → Nat} {w : List Nat} {n : Nat} {q : PS} {m : MS} (h : Rq z D w n q.1 m) (hs : Sv n q.2 (mSv m)) :
    ∃ n' q', fP_saveState q = some q' ∧ qT q'.1 = qT q.1 ∧ qR q'.1 = qR q.1 ∧ qB q'.1 = qB q.1 ∧ qL q'.1 = qL q.1 ∧ Gd (fun m' => (∃ f x, m' = sMSm (sMSv m f) x) ∧ Rq z D w n' q'.1 m' ∧ Sv n' q'.2 (mSv m')) (fM_save m) := by
  obtain ⟨h1, h2, h3, h4, h5, h6, h7, h8, h9, h10, h11⟩ := h
  have hc : (qN q.1).toNatClampNeg = n := by rw [h9, nI_clamp' (by omega)]
  have hsv : fP_saveState q = some (saveS n q) := by
    unfold fP_saveState
    rw [hc, if_pos ⟨h11, h9⟩]
  have hm := z_save h11 h10
  by_cases e : n = 6
  · subst e
    have hq : saveS 6 q = (sQN (sQN q.1 (nI 5)) (nI 6), setV (rotV q.2) 5 (qT q.1)) := if_pos rfl
    refine ⟨6, saveS 6 q, hsv, by rw [hq], by rw [hq], by rw [hq], by rw [hq], gd_mono hm ?_⟩
    rintro m' ⟨f, k, rfl, hk, f1, f2⟩
    have hk5 : k = 5 := by omega
    subst hk5
    refine ⟨⟨f, _, rfl⟩, ⟨h1, by rw [hq]; exact h2, h3, h4, by rw [hq]; exact h5, by rw [hq]; exact h6, h7, h8, by rw [hq], rfl, by omega⟩, ?_⟩
    intro i hi
    rw [hq]
    show ∃ z D, WF z D ∧ Ht z (Wz z D) (if i = 5 then qT q.1 else q.2.2 (rotI i)) ∧ Mz z (fun j => f (i * 1361 + j))
    by_cases ei : i = 5
    · subst ei
      refine ⟨z, D, h1, by rw [if_pos rfl]; exact h2, Mz_congr h3 (fun j hj => f1 j hj)⟩
    · obtain ⟨zi, Di, a1, a2, a3⟩ := hs (i + 1) (by omega)
      have hr : rotI i = i + 1 := by
        have : i = 0 ∨ i = 1 ∨ i = 2 ∨ i = 3 ∨ i = 4 := by omega
        rcases this with rfl | rfl | rfl | rfl | rfl <;> rfl
      refine ⟨zi, Di, a1, by rw [if_neg ei, hr]; exact a2, Mz_congr a3 (fun j hj => ?_)⟩
      show f (i * 1361 + j) = _
      rw [f2 i (by omega) j hj, if_pos rfl]
  · have hq : saveS n q = (sQN q.1 (nI (n + 1)), setV q.2 n (qT q.1)) := if_neg e
    refine ⟨n + 1, saveS n q, hsv, by rw [hq], by rw [hq], by rw [hq], by rw [hq], gd_mono hm ?_⟩
    rintro m' ⟨f, k, rfl, hk, f1, f2⟩
    have hkn : k = n := by omega
    subst hkn
    refine ⟨⟨f, _, rfl⟩, ⟨h1, by rw [hq]; exact h2, h3, h4, by rw [hq]; exact h5, by rw [hq]; exact h6, h7, h8, by rw [hq], rfl, by omega⟩, ?_⟩
    intro i hi
    rw [hq]
    show ∃ z D, WF z D ∧ Ht z (Wz z D) (if i = k then qT q.1 else q.2.2 i) ∧ Mz z (fun j => f (i * 1361 + j))
    by_cases ei : i = k
    · subst ei
      refine ⟨z, D, h1, by rw [if_pos rfl]; exact h2, Mz_congr h3 (fun j hj => f1 j hj)⟩
    · obtain ⟨zi, Di, a1, a2, a3⟩ := hs i (by omega)
      refine ⟨zi, Di, a1, by rw [if_neg ei]; exact a2, Mz_congr a3 (fun j hj => ?_)⟩
      show f (i * 1361 + j) = _
      rw [f2 i (by omega) j hj, if_neg e]
/-- adding the word in the buffer, in the model -/
theorem z_addIt {z : Sz} {D : Nat → Nat} {m : MS} {w : List Nat} (h : WF z D) (hz : Mz z (mZ m)) (hw : okw w) (hB : Rw (mBu m) w) (hT : mTy m = nI w.length) :
    Gd (fun o => Bz m o.2 ∧ Mz z (mSp o.2) ∧ (w = [] → o.1 = 3 ∧ Mz z (mZ o.2)) ∧ (w ≠ [] → Fz z D 0 w ≠ 0 → o.1 = 1 ∧ Mz z (mZ o.2)) ∧ (w ≠ [] → Fz z D 0 w = 0 → (insS z w = none → o.1 = 2 ∧ Mz z (mZ o.2)) ∧ ∀ x zf, insS z w = some (x, zf) → o.1 = 0 ∧ Mz zf (mZ o.2) ∧ mLn o.2 = nI x)) (fM_addIt m) := by
  have hw12 := hw.1
  unfold fM_addIt
  refine gd_bind (z_putAside m) ?_
  rintro m1 ⟨f1, rfl, hf1⟩
  have hsp : Mz z f1 := Mz_congr hz hf1
  rw [gw_let]
  try dsimp only
  have hback : ∀ (k : Int32) (m2 : MS), Bz m m2 → mSp m2 = f1 → Gd (fun o : Int32 × MS => o.1 = k ∧ Bz m o.2 ∧ Mz z (mSp o.2) ∧ Mz z (mZ o.2)) ((fM_bringBack m2).bind fun q6 => some (k, q6)) := by
    intro k m2 hb hp
    refine gd_bind (z_bringBack m2) ?_
    rintro m3 ⟨f3, rfl, hf3⟩
    refine gd_some ⟨rfl, hb, ?_, Mz_congr hsp (fun j hj => by rw [← hp]; exact hf3 j hj)⟩
    show Mz z (mSp m2)
    rw [hp]; exact hsp
  have hty : mTy (sMSp m f1) = nI w.length := hT
  rw [hty]
  by_cases e : w = []
  · subst e
    rw [if_pos (show nI ([] : List Nat).length = 0 from rfl)]
    try dsimp only
    rw [if_neg (by decide)]
    refine gd_mono (hback 3 _ (Bz.refl m) rfl) ?_
    rintro o ⟨o1, o2, o3, o4⟩
    exact ⟨o2, o3, fun _ => ⟨o1, o4⟩, fun q => absurd rfl q, fun q => absurd rfl q⟩
  · have hl : w.length ≠ 0 := fun q => e (List.eq_nil_of_length_eq_zero q)
    rw [if_neg (nI_ne0 (by omega) (by omega))]
    refine gd_bind (z_addWord h (t := sMSp m f1) hz (ra := mBu) (fun _ _ _ _ => rfl) hw hB e) ?_
    rintro q ⟨q1, q2, q3⟩
    have hb : Bz m q.2 := q1.bz
    have hp : mSp q.2 = f1 := q1.pz.2.2.2.1
    try dsimp only
    by_cases e0 : q.1 = 0
    · rw [if_pos e0]
      refine gd_some ⟨hb, by rw [hp]; exact hsp, fun a => absurd a e, fun _ a => ?_, fun _ a => ?_⟩
      · have := q2 a
        rw [e0] at this; exact absurd this (by decide)
      · obtain ⟨r1, r2⟩ := q3 a
        refine ⟨fun b => ?_, r2⟩
        have := r1 b
        rw [e0] at this; exact absurd this (by decide)
    · rw [if_neg e0]
      refine gd_mono (hback q.1 q.2 hb hp) ?_
      rintro o ⟨o1, o2, o3, o4⟩
      refine ⟨o2, o3, fun a => absurd a e, fun _ a => ⟨by rw [o1]; exact q2 a, o4⟩, fun _ a => ?_⟩
      obtain ⟨r1, r2⟩ := q3 a
      exact ⟨fun b => ⟨by rw [o1]; exact r1 b, o4⟩, fun x zf b => absurd (r2 x zf b).1 e0⟩
/-- the same in the class -/
theorem t_tryToAdd {z : Sz} {D : Nat → Nat} {q : QS} {w : List Nat} (h : WF z D) (ht : Ht z (Wz z D) (qT q)) (hw : okw w) (hB : qB q = lN (enc w)) (hL : qL q = nI w.length) :
    Gd (fun o => (∃ r, o.2 = sQR q r) ∧ (w = [] → o.1 = 3) ∧ (w ≠ [] → Fz z D 0 w ≠ 0 → o.1 = 1) ∧ (w ≠ [] → Fz z D 0 w = 0 → (insS z w = none → o.1 = 2) ∧ ∀ x zf, insS z w = some (x, zf) → o.1 = 0 ∧ ∀ Df, WF zf Df → Ht zf (Wz zf Df) (qR o.2))) (fP_tryToAdd q) := by
  have hw12 := hw.1
  unfold fP_tryToAdd
  rw [hL]
  by_cases e : w = []
  · subst e
    rw [if_pos (show nI ([] : List Nat).length = 0 from rfl)]
    exact gd_some ⟨⟨qR q, rfl⟩, fun _ => rfl, fun a => absurd rfl a, fun a => absurd rfl a⟩
  · have hl : w.length ≠ 0 := fun a => e (List.eq_nil_of_length_eq_zero a)
    rw [if_neg (nI_ne0 (by omega) (by omega)), hB, t_leafOf h ht hw]
    simp only [Option.bind_some]
    by_cases eF : Fz z D 0 w = 0
    · rw [eF, nz_0, if_pos rfl, gw_let, gw_let]
      refine gd_bind (P := fun o => (insS z w = none → o.1 = -1) ∧ ∀ x zf, insS z w = some (x, zf) → o.1 = nI x ∧ ∀ Df, WF zf Df → Ht zf (Wz zf Df) o.2) ?_ ?_
      · show Gd _ (fT_insert (qB q) (qT q))
        rw [hB]
        exact t_insert h ht hw e eF
      · rintro o ⟨o1, o2⟩
        rw [gw_let]
        cases hS : insS z w with
        | none =>
          rw [if_pos (o1 hS)]
          exact gd_some ⟨⟨o.2, rfl⟩, fun a => absurd a e, fun _ a => absurd rfl a, fun _ _ => ⟨fun _ => rfl, fun x zf a => by cases a⟩⟩
        | some v =>
          obtain ⟨x, zf⟩ := v
          obtain ⟨Df, f1, f2, f3⟩ := ins_ok h hw e eF hS
          obtain ⟨r1, r2⟩ := o2 x zf hS
          have hx := f1.lt (c := x) (by rw [f2.1]; omega)
          rw [if_neg (by rw [r1]; exact nI_m1 (by omega))]
          refine gd_some ⟨⟨o.2, rfl⟩, fun a => absurd a e, fun _ a => absurd rfl a, fun _ _ => ⟨fun a => (by cases a), fun x' zf' a => ?_⟩⟩
          obtain ⟨v1, v2⟩ := Prod.mk.inj (Option.some.inj a)
          rw [← v2]
          exact ⟨rfl, r2⟩
    · have hF : Fz z D 0 w < 160 := by
        have hm := T_F h 0 (by rw [h.root.1]; omega) _ w (fun l hl => (hw.2 l hl).1) rfl eF
        exact h.lt (by have := (T_in h 0 (by rw [h.root.1]; omega) _ _ hm).1; omega)
      rw [nz_1 eF, if_neg (nI_m1 (by omega))]
      exact gd_some ⟨⟨qR q, rfl⟩, fun a => absurd a e, fun _ _ => rfl, fun _ a => absurd a eF⟩
