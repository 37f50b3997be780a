/-! an empty table; words added one by one -/
def clrS (m : Nat) : Sz := (fun c => if c = 0 then 1 else 0, fun _ => 0, fun _ => 0, fun _ => 0, fun _ => 0, fun _ => 0, fun _ => [], m)
theorem clr_wf (m : Nat) : WF (clrS m) (fun _ => 0) := by
  have hK : ∀ c, (clrS m).K c = if c = 0 then 1 else 0 := fun _ => rfl
  refine ⟨⟨rfl, rfl, rfl, rfl⟩, fun c hc => if_neg (by omega), fun c _ => ⟨rfl, rfl, rfl, rfl⟩, fun c h0 hk => ?_, fun c hk => ?_, fun c _ => ⟨rfl, by show 0 < 160; omega, by show 0 ≤ 11; omega, fun q => ?_⟩, fun c => ?_, fun c hk => ?_, ⟨fun _ _ => rfl, fun _ _ => rfl, fun _ => okw_nil, fun p q hp => absurd rfl hp⟩, fun p => ?_⟩
  · rw [hK, if_neg h0] at hk; exact absurd rfl hk
  · rw [hK] at hk; split at hk <;> omega
  · have q' : 0 < 0 := q
    omega
  · rw [hK]; split <;> omega
  · rw [hK] at hk; split at hk <;> omega
  · show 0 = _
    rw [sm_z]
    intro c _
    refine if_neg (fun q => ?_)
    have := q.1
    rw [hK] at this; split at this <;> omega
theorem clr_Hw {m y : Nat} {v : List Nat} (h : Hw (clrS m) (fun _ => 0) y v) : False := by
  have : (if y = 0 then 1 else 0) = 2 := h.1
  split at this <;> omega
theorem clr_W (m a : Nat) : Wz (clrS m) (fun _ => 0) a = 0 := by
  refine sm_z (fun c _ => if_neg (fun q => ?_))
  have : (if c = 0 then 1 else 0) = 2 := q.1
  split at this <;> omega
theorem clr_msk (m x : Nat) : msk (clrS m) x 9 = 0 := (msk_ch (clr_wf m)).mpr (fun b => if_neg (fun q => by have : 0 < 0 := q.1; omega))
def pkF : List (Nat × List Nat) → Sz → Option Sz
  | [], z => some z
  | p :: L, z => match insS z p.2 with
    | none => none
    | some (_, z') => pkF L z'
def usd (z : Sz) : Nat := cnt (fun c => decide (z.K c ≠ 0)) 160
/-- the words that are added are not there yet -/
theorem pk_no {z zk : Sz} {D Dk : Nat → Nat} (h : WF z D) (hk : WF zk Dk) {k : Nat} {p : Nat × List Nat} (hp : (Tz z D 0)[k]? = some p) (hw : ∀ y v, Hw zk Dk y v → ∃ j q, j < k ∧ (Tz z D 0)[j]? = some q ∧ v = q.2) : Fz zk Dk 0 p.2 = 0 := by
  have hpo := T0_ok h (y := p.1) (u := p.2) (List.mem_of_getElem? hp)
  by_cases e : Fz zk Dk 0 p.2 = 0
  · exact e
  · have h1 := T_F hk 0 (by rw [hk.root.1]; omega) _ p.2 (fun l hl => (hpo.1.2 l hl).1) rfl e
    obtain ⟨j, q, hj, hq, e2⟩ := hw _ _ ((Hw_T hk).mpr h1)
    have := T_word_inj h hp hq e2
    omega
theorem t_clear_all (t : TS) : Gd (fun t' => ∀ m, Ht (clrS m) (Wz (clrS m) (fun _ => 0)) (sTM t' (nI m))) (fT_clear t) := by
  unfold fT_clear
  refine gd_bind (P := fun t' => ∀ c, c < 160 → tK t' c = 0 ∧ tP t' c = -1 ∧ tB t' c = -1 ∧ tO t' c = 0 ∧ tE t' c = -1 ∧ tC t' c = 0 ∧ tW t' c = 0) ?_ ?_
  · refine gd_lp (fun k y => ∃ t', y = (nI k, t') ∧ ∀ c, c < k → tK t' c = 0 ∧ tP t' c = -1 ∧ tB t' c = -1 ∧ tO t' c = 0 ∧ tE t' c = -1 ∧ tC t' c = 0 ∧ tW t' c = 0) 160 ⟨t, rfl, fun c hc => absurd hc (Nat.not_lt_zero c)⟩ ?_ (by omega)
    rintro k y hk ⟨t', rfl, h1⟩
    try dsimp only
    by_cases e : k = 160
    · subst e
      rw [if_pos (show (160 : Int32) ≤ nI 160 by decide)]
      exact gd_inl h1
    · rw [if_neg (show ¬ (160 : Int32) ≤ nI k from nI_ge (b := 160) (by omega) (by omega)), gw_let, nI_1]
      refine gd_inr (by omega) ⟨_, rfl, ?_⟩
      intro c hc
      have hput : ∀ (f : Nat → Int32) (v : Int32), (c ≠ k → f c = v) → J_put 160 f (nI k) v c = v := by
        intro f v hf
        rw [J_put_n _ _ (by omega) (by omega)]
        by_cases ec : c = k
        · rw [ec, upd_eq]
        · rw [upd_ne _ _ ec]; exact hf ec
      have h2 : c ≠ k → c < k := fun q => by omega
      exact ⟨hput _ _ (fun q => (h1 c (h2 q)).1), hput _ _ (fun q => (h1 c (h2 q)).2.1), hput _ _ (fun q => (h1 c (h2 q)).2.2.1), hput _ _ (fun q => (h1 c (h2 q)).2.2.2.1), hput _ _ (fun q => (h1 c (h2 q)).2.2.2.2.1), hput _ _ (fun q => (h1 c (h2 q)).2.2.2.2.2.1), hput _ _ (fun q => (h1 c (h2 q)).2.2.2.2.2.2)⟩
  · intro t1 h1
    rw [gw_let, gw_let, gw_let, gw_let]
    refine gd_some (fun m => ⟨fun c hc => ?_, fun p hp => ⟨rfl, rfl⟩, rfl⟩)
    obtain ⟨a1, a2, a3, a4, a5, a6, a7⟩ := h1 c hc
    refine ⟨?_, a2, a3, a4, a5, ?_, ?_⟩
    · show J_put 160 (tK t1) (nI 0) 1 c = nI (if c = 0 then 1 else 0)
      rw [J_put_n _ _ (by omega) (by omega)]
      by_cases ec : c = 0
      · rw [if_pos ec, ec, upd_eq]; rfl
      · rw [if_neg ec, upd_ne _ _ ec, a1]; rfl
    · show tC t1 c = nI (msk (clrS m) c 9)
      rw [clr_msk, a6]; rfl
    · show tW t1 c = nI (Wz (clrS m) (fun _ => 0) c)
      rw [clr_W, a7]; rfl
theorem drop_get {α : Type} {L : List α} {k : Nat} {p : α} (h : L[k]? = some p) : L.drop k = p :: L.drop (k + 1) := by
  obtain ⟨h1, h2⟩ := List.getElem?_eq_some_iff.mp h
  rw [List.drop_eq_getElem_cons h1, h2]
theorem t_packFrom {z : Sz} {D : Nat → Nat} {t u : TS} (h : WF z D) (hu : Ht z (Wz z D) u) :
    Gd (fun o => (pkF (Tz z D 0) (clrS z.M) = none → o.1 = -1) ∧ ∀ zf, pkF (Tz z D 0) (clrS z.M) = some zf → o.1 = nI (usd zf) ∧ ∃ Df, WF zf Df ∧ Ht zf (Wz zf Df) o.2) (fT_packFrom t u) := by
  have hlen := T0_len h
  unfold fT_packFrom
  refine gd_bind (t_clear_all t) ?_
  intro t1 h1
  rw [gw_let, gw_let, t_words h hu, hu.m]
  refine gd_lp (fun k y => ∃ zk Dk t', y = (nI k, t') ∧ WF zk Dk ∧ Ht zk (Wz zk Dk) t' ∧ pkF ((Tz z D 0).drop k) zk = pkF (Tz z D 0) (clrS z.M) ∧ ∀ y v, Hw zk Dk y v → ∃ j q, j < k ∧ (Tz z D 0)[j]? = some q ∧ v = q.2) (Tz z D 0).length ⟨clrS z.M, fun _ => 0, _, rfl, clr_wf _, h1 z.M, rfl, fun y v hv => (clr_Hw hv).elim⟩ ?_ (by omega)
  rintro k y hk ⟨zk, Dk, t', rfl, g1, g2, g3, g4⟩
  try dsimp only
  by_cases e : k = (Tz z D 0).length
  · rw [if_pos (nI_le (by omega) (by omega)), t_usedCells g1.sml g2]
    simp only [Option.bind_some]
    refine gd_inl ?_
    rw [← g3, e, List.drop_length]
    exact ⟨fun q => (by cases q), fun zf q => by
      have := Option.some.inj q
      subst this
      exact ⟨rfl, Dk, g1, g2⟩⟩
  · rw [if_neg (nI_ge (by omega) (by omega))]
    obtain ⟨p, hp⟩ := T_get (z := z) (D := D) (k := k) (by omega)
    have hpo := T0_ok h (y := p.1) (u := p.2) (List.mem_of_getElem? hp)
    have hno := pk_no h g1 hp g4
    rw [t_wordAt h hu hp]
    simp only [Option.bind_some]
    refine gd_bind (t_insert g1 g2 hpo.1 hpo.2 hno) ?_
    rintro q ⟨q1, q2⟩
    rw [drop_get hp, pkF] at g3
    cases hS : insS zk p.2 with
    | none =>
      rw [hS] at g3
      rw [if_pos (q1 hS)]
      refine gd_inl ?_
      rw [← g3]
      exact ⟨fun _ => rfl, fun zf q => by cases q⟩
    | some v =>
      obtain ⟨x, zf⟩ := v
      rw [hS] at g3
      obtain ⟨Df, f1, f2, f3⟩ := ins_ok g1 hpo.1 hpo.2 hno hS
      obtain ⟨r1, r2⟩ := q2 x zf hS
      have hxk : zf.K x ≠ 0 := by rw [f2.1]; omega
      have hx := f1.lt hxk
      rw [if_neg (by rw [r1]; exact nI_m1 (by omega)), nI_1]
      refine gd_inr (by omega) ⟨zf, Df, q.2, rfl, f1, r2 Df f1, g3, fun y v hv => ?_⟩
      rcases f3 y v hv with e1 | ⟨y', e1⟩
      · exact ⟨k, p, by omega, hp, e1⟩
      · obtain ⟨j, q', hj, hq', e2⟩ := g4 y' v e1
        exact ⟨j, q', by omega, hq', e2⟩
