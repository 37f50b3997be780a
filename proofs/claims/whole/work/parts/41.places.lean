/-! the place for an end -/
def mtp (U : Nat → Nat) (X : Nat → List Nat) (w : List Nat) : Nat → Nat
  | 0 => 0
  | n + 1 => if U n ≠ 0 ∧ X n = w then n + 1 else mtp U X w n
def fpl (U : Nat → Nat) : Nat → Nat
  | 0 => 0
  | n + 1 => if fpl U n ≠ 0 then fpl U n else if U n = 0 then n + 1 else 0
def plc (U : Nat → Nat) (X : Nat → List Nat) (w : List Nat) : Nat := if mtp U X w 40 ≠ 0 then mtp U X w 40 else fpl U 40
theorem fpl_le (U : Nat → Nat) : ∀ n, fpl U n ≤ n
  | 0 => Nat.le_refl _
  | n + 1 => by
    have := fpl_le U n
    rw [fpl]
    split
    · omega
    · split <;> omega
theorem mtp_le (U : Nat → Nat) (X : Nat → List Nat) (w : List Nat) : ∀ n, mtp U X w n ≤ n
  | 0 => Nat.le_refl _
  | n + 1 => by
    have := mtp_le U X w n
    rw [mtp]
    split <;> omega
theorem mtp_ok {U : Nat → Nat} {X : Nat → List Nat} {w : List Nat} : ∀ {n : Nat}, mtp U X w n ≠ 0 → U (mtp U X w n - 1) ≠ 0 ∧ X (mtp U X w n - 1) = w
  | 0, h => absurd rfl h
  | n + 1, h => by
    rw [mtp] at h ⊢
    by_cases e : U n ≠ 0 ∧ X n = w
    · rw [if_pos e]; exact e
    · rw [if_neg e] at h ⊢; exact mtp_ok h
theorem mtp_no {U : Nat → Nat} {X : Nat → List Nat} {w : List Nat} : ∀ {n : Nat}, mtp U X w n = 0 ↔ ∀ p, p < n → ¬ (U p ≠ 0 ∧ X p = w)
  | 0 => ⟨fun _ p hp => absurd hp (Nat.not_lt_zero p), fun _ => rfl⟩
  | n + 1 => by
    rw [mtp]
    by_cases e : U n ≠ 0 ∧ X n = w
    · rw [if_pos e]
      exact ⟨fun h => by omega, fun h => absurd e (h n (by omega))⟩
    · rw [if_neg e, mtp_no]
      constructor
      · intro h p hp
        by_cases e2 : p = n
        · rw [e2]; exact e
        · exact h p (by omega)
      · intro h p hp; exact h p (by omega)
theorem mtp_at {U : Nat → Nat} {X : Nat → List Nat} {w : List Nat} (h : WFe U X) {k : Nat} (hk : U k ≠ 0 ∧ X k = w) {n : Nat} (hn : k < n) : mtp U X w n = k + 1 := by
  by_cases e : mtp U X w n = 0
  · exact absurd hk (mtp_no.mp e k hn)
  · have := mtp_ok e
    have := h.2.2.2 _ _ this.1 hk.1 (by rw [this.2, hk.2])
    omega
theorem fpl_ok {U : Nat → Nat} : ∀ {n : Nat}, fpl U n ≠ 0 → U (fpl U n - 1) = 0 ∧ ∀ p, p < fpl U n - 1 → U p ≠ 0
  | 0, h => absurd rfl h
  | n + 1, h => by
    rw [fpl] at h ⊢
    by_cases e : fpl U n ≠ 0
    · rw [if_pos e]; exact fpl_ok e
    · rw [if_neg e] at h ⊢
      by_cases e2 : U n = 0
      · rw [if_pos e2]
        refine ⟨e2, fun p hp a => ?_⟩
        have : ∀ {m : Nat}, fpl U m = 0 → ∀ p, p < m → U p ≠ 0 := by
          intro m
          induction m with
          | zero => intro _ p hp; exact absurd hp (Nat.not_lt_zero p)
          | succ m ih =>
            intro hm p hp
            rw [fpl] at hm
            by_cases e : fpl U m ≠ 0
            · rw [if_pos e] at hm; exact absurd hm e
            · rw [if_neg e] at hm
              by_cases e2 : U m = 0
              · rw [if_pos e2] at hm; omega
              · by_cases e3 : p = m
                · rw [e3]; exact e2
                · exact ih (by omega) p (by omega)
        exact this (m := n) (by omega) p (by omega) a
      · rw [if_neg e2] at h; exact absurd rfl h
theorem fpl_no {U : Nat → Nat} : ∀ {n : Nat}, fpl U n = 0 → ∀ p, p < n → U p ≠ 0
  | 0, _, p, hp => absurd hp (Nat.not_lt_zero p)
  | n + 1, hm, p, hp => by
    rw [fpl] at hm
    by_cases e : fpl U n ≠ 0
    · rw [if_pos e] at hm; exact absurd hm e
    · rw [if_neg e] at hm
      by_cases e2 : U n = 0
      · rw [if_pos e2] at hm; omega
      · by_cases e3 : p = n
        · rw [e3]; exact e2
        · exact fpl_no (n := n) (by omega) p (by omega)
theorem plc_le (U : Nat → Nat) (X : Nat → List Nat) (w : List Nat) : plc U X w ≤ 40 := by
  have h1 := mtp_le U X w 40
  have h2 := fpl_le U 40
  rw [plc]; split <;> omega
/-- an end more at a place, an end less -/
def gX (X : Nat → List Nat) (p : Nat) (w : List Nat) : Nat → List Nat := fu X p w
def gU (U : Nat → Nat) (p : Nat) : Nat → Nat := fu U p (U p + 1)
def dU (U : Nat → Nat) (p : Nat) : Nat → Nat := fu U p (U p - 1)
def dX (U : Nat → Nat) (X : Nat → List Nat) (p : Nat) : Nat → List Nat := if U p = 1 then fu X p [] else X
theorem WFe_give {U : Nat → Nat} {X : Nat → List Nat} (h : WFe U X) {w : List Nat} (hw : okw w) {p : Nat} (hp : plc U X w = p + 1) : WFe (gU U p) (gX X p w) ∧ p < 40 ∧ (U p ≠ 0 → X p = w) := by
  have h40 := plc_le U X w
  have hx : U p ≠ 0 → X p = w := by
    intro hu
    rw [plc] at hp
    by_cases e : mtp U X w 40 ≠ 0
    · rw [if_pos e] at hp
      have := mtp_ok e
      rw [hp, Nat.add_sub_cancel] at this
      exact this.2
    · rw [if_neg e] at hp
      have := fpl_ok (U := U) (n := 40) (by omega)
      rw [hp, Nat.add_sub_cancel] at this
      exact absurd this.1 hu
  have hno : U p = 0 → ∀ q, U q ≠ 0 → X q ≠ w := by
    intro hu q hq
    rw [plc] at hp
    by_cases e : mtp U X w 40 ≠ 0
    · rw [if_pos e] at hp
      have := mtp_ok e
      rw [hp, Nat.add_sub_cancel] at this
      exact absurd hu this.1
    · intro a
      have hq40 : q < 40 := by
        have := h.1 q
        omega
      exact mtp_no.mp (by omega : mtp U X w 40 = 0) q hq40 ⟨hq, a⟩
  refine ⟨⟨fun q hq => ?_, fun q hq => ?_, fun q => ?_, fun q r hq hr e => ?_⟩, by omega, hx⟩
  · rw [gU, fu_ne _ _ (by omega)]; exact h.1 q hq
  · by_cases e : q = p
    · rw [gU, e, fu_eq] at hq; omega
    · rw [gU, fu_ne _ _ e] at hq
      rw [gX, fu_ne _ _ e]; exact h.2.1 q hq
  · by_cases e : q = p
    · rw [gX, e, fu_eq]; exact hw
    · rw [gX, fu_ne _ _ e]; exact h.2.2.1 q
  · by_cases e1 : q = p <;> by_cases e2 : r = p
    · omega
    · rw [gU, fu_ne _ _ e2] at hr
      rw [gX, e1, fu_eq, fu_ne _ _ e2] at e
      by_cases hu : U p = 0
      · exact absurd e.symm (hno hu r hr)
      · rw [e1]; exact h.2.2.2 p r hu hr (by rw [hx hu, e])
    · rw [gU, fu_ne _ _ e1] at hq
      rw [gX, e2, fu_eq, fu_ne _ _ e1] at e
      by_cases hu : U p = 0
      · exact absurd e (hno hu q hq)
      · rw [e2]; exact h.2.2.2 q p hq hu (by rw [hx hu, e])
    · rw [gU, fu_ne _ _ e1] at hq
      rw [gU, fu_ne _ _ e2] at hr
      rw [gX, fu_ne _ _ e1, fu_ne _ _ e2] at e
      exact h.2.2.2 q r hq hr e
theorem WFe_drop {U : Nat → Nat} {X : Nat → List Nat} (h : WFe U X) {p : Nat} (hp : U p ≠ 0) : WFe (dU U p) (dX U X p) := by
  have hX : ∀ q, q ≠ p → dX U X p q = X q := by
    intro q hq
    rw [dX]
    by_cases e : U p = 1
    · rw [if_pos e, fu_ne _ _ hq]
    · rw [if_neg e]
  have hXp : dX U X p p = if U p = 1 then [] else X p := by
    rw [dX]
    by_cases e : U p = 1
    · rw [if_pos e, if_pos e, fu_eq]
    · rw [if_neg e, if_neg e]
  refine ⟨fun q hq => ?_, fun q hq => ?_, fun q => ?_, fun q r hq hr e => ?_⟩
  · by_cases e : q = p
    · subst e; exact absurd (h.1 q hq) hp
    · rw [dU, fu_ne _ _ e]; exact h.1 q hq
  · by_cases e : q = p
    · subst e
      rw [dU, fu_eq] at hq
      rw [hXp, if_pos (by omega)]
    · rw [dU, fu_ne _ _ e] at hq
      rw [hX q e]; exact h.2.1 q hq
  · by_cases e : q = p
    · subst e
      rw [hXp]
      split
      · exact okw_nil
      · exact h.2.2.1 q
    · rw [hX q e]; exact h.2.2.1 q
  · have h1 : ∀ q, dU U p q ≠ 0 → U q ≠ 0 ∧ dX U X p q = X q := by
      intro q hq
      by_cases e : q = p
      · subst e
        rw [dU, fu_eq] at hq
        exact ⟨hp, by rw [hXp, if_neg (by omega)]⟩
      · rw [dU, fu_ne _ _ e] at hq
        exact ⟨hq, hX q e⟩
    have a := h1 q hq
    have b := h1 r hr
    rw [a.2, b.2] at e
    exact h.2.2.2 q r a.1 b.1 e
/-! the class's ends -/
theorem He.u {U : Nat → Nat} {X : Nat → List Nat} {t : ES} (h : He U X t) {p : Nat} (hp : p < 40) : eU t p = nI (U p) := (h p hp).1
theorem He.x {U : Nat → Nat} {X : Nat → List Nat} {t : ES} (h : He U X t) {p : Nat} (hp : p < 40) : eX t p = lN (enc (X p)) := (h p hp).2
theorem e_placeFor {U : Nat → Nat} {X : Nat → List Nat} {t : ES} (h : WFe U X) (hU : ∀ p, U p < 161) (he : He U X t) {w : List Nat} (hw : okw w) : fE_placeFor (lN (enc w)) t = some (eI (plc U X w)) := by
  unfold fE_placeFor
  refine lp_walk (fun k y => y = (eI (fpl U k), nI k) ∧ mtp U X w k = 0) 40 _ ⟨rfl, rfl⟩ ?_ (by omega)
  rintro k y hk ⟨rfl, h1⟩
  have hf := fpl_le U k
  try dsimp only
  by_cases e : k = 40
  · left
    subst e
    rw [if_pos (show (40 : Int32) ≤ nI 40 by decide), plc, if_neg (by omega)]
  · have hu := hU k
    rw [if_neg (show ¬ (40 : Int32) ≤ nI k from nI_ge (b := 40) (by omega) (by omega)), if_neg (show ¬ (40 : Int32) ≤ nI k from nI_ge (b := 40) (by omega) (by omega)), if_pos (inb_nI (by omega) (by omega)), if_pos (inb_nI (by omega) (by omega)), nI_clamp' (by omega), he.u (by omega), he.x (by omega), nI_1]
    have hfs : fpl U (k + 1) = if fpl U k ≠ 0 then fpl U k else if U k = 0 then k + 1 else 0 := rfl
    have hms : mtp U X w (k + 1) = if U k ≠ 0 ∧ X k = w then k + 1 else mtp U X w k := rfl
    by_cases e1 : U k = 0
    · right
      refine ⟨by omega, (eI (fpl U (k + 1)), nI (k + 1)), ?_, rfl, by rw [hms, if_neg (fun a => a.1 e1), h1]⟩
      rw [if_pos (show nI (U k) ≤ 0 by rw [e1]; decide)]
      by_cases e2 : fpl U k = 0
      · rw [if_pos ((eI_m1 (by omega)).mpr e2), hfs, if_neg (fun a => a e2), if_pos e1, eI_s]
      · rw [if_neg (fun a => e2 ((eI_m1 (by omega)).mp a)), hfs, if_pos e2]
    · rw [if_neg (nI_nle (by omega) (by omega))]
      by_cases e2 : X k = w
      · left
        rw [if_pos (by rw [e2]), plc, mtp_at h ⟨e1, e2⟩ (show k < 40 by omega), if_pos (by omega), eI_s]
      · right
        refine ⟨by omega, (eI (fpl U (k + 1)), nI (k + 1)), ?_, rfl, by rw [hms, if_neg (fun a => e2 a.2), h1]⟩
        rw [if_neg (fun a => e2 ((encN_eq (h.2.2.1 k) hw).mp a)), hfs]
        by_cases e3 : fpl U k = 0
        · rw [if_neg (fun a => a e3), if_neg e1, e3]
        · rw [if_pos e3]
theorem updL_eq (f : Nat → Int64) (k : Nat) (x : Int64) : vp_updL f k x k = x := if_pos rfl
theorem updL_ne (f : Nat → Int64) {k j : Nat} (x : Int64) (h : j ≠ k) : vp_updL f k x j = f j := if_neg h
theorem e_keep {U : Nat → Nat} {X : Nat → List Nat} {t : ES} (h : WFe U X) (hU : ∀ p, U p < 161) (he : He U X t) {w : List Nat} (hw : okw w) :
    Gd (fun o => o.1 = eI (plc U X w) ∧ (plc U X w = 0 → o.2 = t) ∧ ∀ p, plc U X w = p + 1 → He (gU U p) (gX X p w) o.2) (fE_keep (lN (enc w)) t) := by
  have h40 := plc_le U X w
  unfold fE_keep
  rw [e_placeFor h hU he hw]
  simp only [Option.bind_some]
  by_cases e : plc U X w = 0
  · rw [e, if_pos (by decide)]
    exact gd_some ⟨rfl, fun _ => rfl, fun p hp => by omega⟩
  · obtain ⟨p, hp⟩ : ∃ p, plc U X w = p + 1 := ⟨plc U X w - 1, by omega⟩
    rw [hp, eI_s, if_neg (nI_lt0 (by omega)), if_neg (show ¬ (40 : Int32) ≤ nI p from nI_ge (b := 40) (by omega) (by omega)), if_pos (inb_nI (by omega) (by omega))]
    simp only [gw_let]
    rw [J_at_n _ (by omega) (by omega), J_put_n _ _ (by omega) (by omega), nI_clamp' (by omega)]
    refine gd_some ⟨rfl, fun a => by omega, fun p' hp' => ?_⟩
    have : p' = p := by omega
    subst this
    intro q hq
    constructor
    · show upd (eU t) p' (eU t p' + 1) q = nI (gU U p' q)
      by_cases e1 : q = p'
      · rw [e1, upd_eq, gU, fu_eq, he.u (by omega), nI_1]
      · rw [upd_ne _ _ e1, gU, fu_ne _ _ e1]; exact he.u hq
    · show vp_updL (eX t) p' (lN (enc w)) q = lN (enc (gX X p' w q))
      by_cases e1 : q = p'
      · rw [e1, updL_eq, gX, fu_eq]
      · rw [updL_ne _ _ e1, gX, fu_ne _ _ e1]; exact he.x hq
theorem e_release {U : Nat → Nat} {X : Nat → List Nat} {t : ES} (hU : ∀ p, U p < 161) (he : He U X t) {p : Nat} (hp : p < 40) (hu : U p ≠ 0) : Gd (fun t' => He (dU U p) (dX U X p) t') (fE_release (nI p) t) := by
  have h1 := hU p
  unfold fE_release
  simp only [gw_let]
  rw [J_at_n _ hp (by omega), he.u hp, show (1 : Int32) = nI 1 by rfl, nI_sub (by omega), if_neg (nI_lt0 (by omega)), J_put_n _ _ hp (by omega)]
  have hUq : ∀ q, q < 40 → upd (eU t) p (nI (U p - 1)) q = nI (dU U p q) := by
    intro q hq
    by_cases e1 : q = p
    · rw [e1, upd_eq, dU, fu_eq]
    · rw [upd_ne _ _ e1, dU, fu_ne _ _ e1]; exact he.u hq
  by_cases e : U p = 1
  · rw [if_pos (by rw [e]; decide), if_neg (nI_lt0 (by omega)), if_neg (show ¬ (40 : Int32) ≤ nI p from nI_ge (b := 40) (by omega) (by omega)), if_pos (inb_nI (by omega) (by omega)), nI_clamp' (by omega)]
    refine gd_some (fun q hq => ⟨hUq q hq, ?_⟩)
    show vp_updL (eX t) p 0 q = _
    rw [dX, if_pos e]
    by_cases e1 : q = p
    · rw [e1, updL_eq, fu_eq]; rfl
    · rw [updL_ne _ _ e1, fu_ne _ _ e1]; exact he.x hq
  · rw [if_neg (nI_ne0 (by omega) (by omega))]
    refine gd_some (fun q hq => ⟨hUq q hq, ?_⟩)
    rw [dX, if_neg e]; exact he.x hq
