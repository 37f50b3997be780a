/-! setters of the spec table; how the rows follow -/
def sK (z : Sz) (f : Nat → Nat) : Sz := (f, z.2)
def sP (z : Sz) (f : Nat → Nat) : Sz := (z.1, f, z.2.2)
def sB (z : Sz) (f : Nat → Nat) : Sz := (z.1, z.2.1, f, z.2.2.2)
def sO (z : Sz) (f : Nat → Nat) : Sz := (z.1, z.2.1, z.2.2.1, f, z.2.2.2.2)
def sE (z : Sz) (f : Nat → Nat) : Sz := (z.1, z.2.1, z.2.2.1, z.2.2.2.1, f, z.2.2.2.2.2)
def sX (z : Sz) (u : Nat → Nat) (x : Nat → List Nat) : Sz := (z.1, z.2.1, z.2.2.1, z.2.2.2.1, z.2.2.2.2.1, u, x, z.2.2.2.2.2.2.2)
def sM (z : Sz) (m : Nat) : Sz := (z.1, z.2.1, z.2.2.1, z.2.2.2.1, z.2.2.2.2.1, z.2.2.2.2.2.1, z.2.2.2.2.2.2.1, m)
theorem fu_same {α : Type} {f : Nat → α} {i : Nat} {v : α} (h : f i = v) : fu f i v = f := by
  funext j
  by_cases e : j = i
  · rw [e, fu_eq, h]
  · rw [fu_ne _ _ e]
theorem Mz_K {z : Sz} {r : Nat → Int32} (h : Mz z r) {c : Nat} (hc : c < 160) (v : Nat) : Mz (sK z (fu z.K c v)) (upd r (c) (nI v)) := by
  refine ⟨fun d hd => ?_, fun d hd => ?_, fun d hd => ?_, fun d hd => ?_, fun d hd => ?_, fun p hp => ?_, fun p hp => ?_, fun p i hp hi => ?_, ?_⟩
  · show _ = nI (fu z.K c v d)
    by_cases e : d = c
    · rw [e, upd_eq, fu_eq]
    · rw [upd_ne _ _ (by omega), fu_ne _ _ e]; exact h.k d hd
  · rw [upd_ne _ _ (by omega)]; exact h.p d hd
  · rw [upd_ne _ _ (by omega)]; exact h.b d hd
  · rw [upd_ne _ _ (by omega)]; exact h.o d hd
  · rw [upd_ne _ _ (by omega)]; exact h.e d hd
  · rw [upd_ne _ _ (by omega)]; exact h.u p hp
  · rw [upd_ne _ _ (by omega)]; exact h.n p hp
  · rw [upd_ne _ _ (by omega)]; exact h.x p i hp hi
  · rw [upd_ne _ _ (by omega)]; exact h.m
theorem Mz_P {z : Sz} {r : Nat → Int32} (h : Mz z r) {c : Nat} (hc : c < 160) (v : Nat) : Mz (sP z (fu z.P c v)) (upd r (160 + c) (eI v)) := by
  refine ⟨fun d hd => ?_, fun d hd => ?_, fun d hd => ?_, fun d hd => ?_, fun d hd => ?_, fun p hp => ?_, fun p hp => ?_, fun p i hp hi => ?_, ?_⟩
  · rw [upd_ne _ _ (by omega)]; exact h.k d hd
  · show _ = eI (fu z.P c v d)
    by_cases e : d = c
    · rw [e, upd_eq, fu_eq]
    · rw [upd_ne _ _ (by omega), fu_ne _ _ e]; exact h.p d hd
  · rw [upd_ne _ _ (by omega)]; exact h.b d hd
  · rw [upd_ne _ _ (by omega)]; exact h.o d hd
  · rw [upd_ne _ _ (by omega)]; exact h.e d hd
  · rw [upd_ne _ _ (by omega)]; exact h.u p hp
  · rw [upd_ne _ _ (by omega)]; exact h.n p hp
  · rw [upd_ne _ _ (by omega)]; exact h.x p i hp hi
  · rw [upd_ne _ _ (by omega)]; exact h.m
theorem Mz_B {z : Sz} {r : Nat → Int32} (h : Mz z r) {c : Nat} (hc : c < 160) (v : Nat) : Mz (sB z (fu z.B c v)) (upd r (320 + c) (eI v)) := by
  refine ⟨fun d hd => ?_, fun d hd => ?_, fun d hd => ?_, fun d hd => ?_, fun d hd => ?_, fun p hp => ?_, fun p hp => ?_, fun p i hp hi => ?_, ?_⟩
  · rw [upd_ne _ _ (by omega)]; exact h.k d hd
  · rw [upd_ne _ _ (by omega)]; exact h.p d hd
  · show _ = eI (fu z.B c v d)
    by_cases e : d = c
    · rw [e, upd_eq, fu_eq]
    · rw [upd_ne _ _ (by omega), fu_ne _ _ e]; exact h.b d hd
  · rw [upd_ne _ _ (by omega)]; exact h.o d hd
  · rw [upd_ne _ _ (by omega)]; exact h.e d hd
  · rw [upd_ne _ _ (by omega)]; exact h.u p hp
  · rw [upd_ne _ _ (by omega)]; exact h.n p hp
  · rw [upd_ne _ _ (by omega)]; exact h.x p i hp hi
  · rw [upd_ne _ _ (by omega)]; exact h.m
theorem Mz_O {z : Sz} {r : Nat → Int32} (h : Mz z r) {c : Nat} (hc : c < 160) (v : Nat) : Mz (sO z (fu z.O c v)) (upd r (480 + c) (nI v)) := by
  refine ⟨fun d hd => ?_, fun d hd => ?_, fun d hd => ?_, fun d hd => ?_, fun d hd => ?_, fun p hp => ?_, fun p hp => ?_, fun p i hp hi => ?_, ?_⟩
  · rw [upd_ne _ _ (by omega)]; exact h.k d hd
  · rw [upd_ne _ _ (by omega)]; exact h.p d hd
  · rw [upd_ne _ _ (by omega)]; exact h.b d hd
  · show _ = nI (fu z.O c v d)
    by_cases e : d = c
    · rw [e, upd_eq, fu_eq]
    · rw [upd_ne _ _ (by omega), fu_ne _ _ e]; exact h.o d hd
  · rw [upd_ne _ _ (by omega)]; exact h.e d hd
  · rw [upd_ne _ _ (by omega)]; exact h.u p hp
  · rw [upd_ne _ _ (by omega)]; exact h.n p hp
  · rw [upd_ne _ _ (by omega)]; exact h.x p i hp hi
  · rw [upd_ne _ _ (by omega)]; exact h.m
theorem Mz_E {z : Sz} {r : Nat → Int32} (h : Mz z r) {c : Nat} (hc : c < 160) (v : Nat) : Mz (sE z (fu z.E c v)) (upd r (640 + c) (eI v)) := by
  refine ⟨fun d hd => ?_, fun d hd => ?_, fun d hd => ?_, fun d hd => ?_, fun d hd => ?_, fun p hp => ?_, fun p hp => ?_, fun p i hp hi => ?_, ?_⟩
  · rw [upd_ne _ _ (by omega)]; exact h.k d hd
  · rw [upd_ne _ _ (by omega)]; exact h.p d hd
  · rw [upd_ne _ _ (by omega)]; exact h.b d hd
  · rw [upd_ne _ _ (by omega)]; exact h.o d hd
  · show _ = eI (fu z.E c v d)
    by_cases e : d = c
    · rw [e, upd_eq, fu_eq]
    · rw [upd_ne _ _ (by omega), fu_ne _ _ e]; exact h.e d hd
  · rw [upd_ne _ _ (by omega)]; exact h.u p hp
  · rw [upd_ne _ _ (by omega)]; exact h.n p hp
  · rw [upd_ne _ _ (by omega)]; exact h.x p i hp hi
  · rw [upd_ne _ _ (by omega)]; exact h.m
theorem Mz_M {z : Sz} {r : Nat → Int32} (h : Mz z r) (v : Nat) : Mz (sM z v) (upd r 1360 (nI v)) := by
  refine ⟨fun d hd => ?_, fun d hd => ?_, fun d hd => ?_, fun d hd => ?_, fun d hd => ?_, fun p hp => ?_, fun p hp => ?_, fun p i hp hi => ?_, ?_⟩
  · rw [upd_ne _ _ (by omega)]; exact h.k d hd
  · rw [upd_ne _ _ (by omega)]; exact h.p d hd
  · rw [upd_ne _ _ (by omega)]; exact h.b d hd
  · rw [upd_ne _ _ (by omega)]; exact h.o d hd
  · rw [upd_ne _ _ (by omega)]; exact h.e d hd
  · rw [upd_ne _ _ (by omega)]; exact h.u p hp
  · rw [upd_ne _ _ (by omega)]; exact h.n p hp
  · rw [upd_ne _ _ (by omega)]; exact h.x p i hp hi
  · rw [upd_eq]; rfl
/-- one end is another -/
theorem Mz_X {z : Sz} {r r' : Nat → Int32} (h : Mz z r) {q : Nat} (hq : q < 40) (u : Nat) (x : List Nat) (h1 : ∀ j, j < 800 + 14 * q ∨ 814 + 14 * q ≤ j → r' j = r j) (h2 : r' (800 + 14 * q) = nI u) (h3 : r' (800 + 14 * q + 1) = nI x.length) (h4 : ∀ i, i < 12 → r' (800 + 14 * q + 2 + i) = nI (hd0 (x.drop i))) : Mz (sX z (fu z.U q u) (fu z.X q x)) r' := by
  refine ⟨fun d hd => ?_, fun d hd => ?_, fun d hd => ?_, fun d hd => ?_, fun d hd => ?_, fun p hp => ?_, fun p hp => ?_, fun p i hp hi => ?_, ?_⟩
  · rw [h1 _ (by omega)]; exact h.k d hd
  · rw [h1 _ (by omega)]; exact h.p d hd
  · rw [h1 _ (by omega)]; exact h.b d hd
  · rw [h1 _ (by omega)]; exact h.o d hd
  · rw [h1 _ (by omega)]; exact h.e d hd
  · show _ = nI (fu z.U q u p)
    by_cases e : p = q
    · rw [e, h2, fu_eq]
    · rw [h1 _ (by omega), fu_ne _ _ e]; exact h.u p hp
  · show _ = nI (fu z.X q x p).length
    by_cases e : p = q
    · rw [e, h3, fu_eq]
    · rw [h1 _ (by omega), fu_ne _ _ e]; exact h.n p hp
  · show _ = nI (hd0 ((fu z.X q x p).drop i))
    by_cases e : p = q
    · rw [e, h4 i hi, fu_eq]
    · rw [h1 _ (by omega), fu_ne _ _ e]; exact h.x p i hp hi
  · rw [h1 _ (by omega)]; exact h.m
/-- the class's rows, with masks and counts given -/
def He (U : Nat → Nat) (X : Nat → List Nat) (t : ES) : Prop := ∀ p, p < 40 → eU t p = nI (U p) ∧ eX t p = lN (enc (X p))
def Hr (z : Sz) (C W : Nat → Nat) (t : TS) : Prop :=
  (∀ c, c < 160 → tK t c = nI (z.K c)) ∧ (∀ c, c < 160 → tP t c = eI (z.P c)) ∧ (∀ c, c < 160 → tB t c = eI (z.B c)) ∧ (∀ c, c < 160 → tO t c = nI (z.O c)) ∧ (∀ c, c < 160 → tE t c = eI (z.E c)) ∧ (∀ c, c < 160 → tC t c = nI (C c)) ∧ (∀ c, c < 160 → tW t c = nI (W c)) ∧ He z.U z.X (tN t) ∧ tM t = nI z.M
theorem Hr.k {z : Sz} {C W : Nat → Nat} {t : TS} (h : Hr z C W t) : ∀ c, c < 160 → tK t c = nI (z.K c) := h.1
theorem Hr.p {z : Sz} {C W : Nat → Nat} {t : TS} (h : Hr z C W t) : ∀ c, c < 160 → tP t c = eI (z.P c) := h.2.1
theorem Hr.b {z : Sz} {C W : Nat → Nat} {t : TS} (h : Hr z C W t) : ∀ c, c < 160 → tB t c = eI (z.B c) := h.2.2.1
theorem Hr.o {z : Sz} {C W : Nat → Nat} {t : TS} (h : Hr z C W t) : ∀ c, c < 160 → tO t c = nI (z.O c) := h.2.2.2.1
theorem Hr.e {z : Sz} {C W : Nat → Nat} {t : TS} (h : Hr z C W t) : ∀ c, c < 160 → tE t c = eI (z.E c) := h.2.2.2.2.1
theorem Hr.c {z : Sz} {C W : Nat → Nat} {t : TS} (h : Hr z C W t) : ∀ c, c < 160 → tC t c = nI (C c) := h.2.2.2.2.2.1
theorem Hr.w {z : Sz} {C W : Nat → Nat} {t : TS} (h : Hr z C W t) : ∀ c, c < 160 → tW t c = nI (W c) := h.2.2.2.2.2.2.1
theorem Hr.n {z : Sz} {C W : Nat → Nat} {t : TS} (h : Hr z C W t) : He z.U z.X (tN t) := h.2.2.2.2.2.2.2.1
theorem Hr.m {z : Sz} {C W : Nat → Nat} {t : TS} (h : Hr z C W t) : tM t = nI z.M := h.2.2.2.2.2.2.2.2
theorem Hr.ht {z : Sz} {C W : Nat → Nat} {t : TS} (h : Hr z C W t) (hC : ∀ c, c < 160 → C c = msk z c 9) : Ht z W t :=
  ⟨fun c hc => ⟨h.k c hc, h.p c hc, h.b c hc, h.o c hc, h.e c hc, by rw [h.c c hc, hC c hc], h.w c hc⟩, h.n, h.m⟩
theorem Ht.hr {z : Sz} {W : Nat → Nat} {t : TS} (h : Ht z W t) : Hr z (fun c => msk z c 9) W t :=
  ⟨fun _ hc => h.k hc, fun _ hc => h.p hc, fun _ hc => h.b hc, fun _ hc => h.o hc, fun _ hc => h.e hc, fun _ hc => h.c hc, fun _ hc => h.w hc, h.2.1, h.m⟩
theorem put_row {wr : Nat → Int32} {f : Nat → Int32} {g : Nat → Nat} (h : ∀ c, c < 160 → f c = wr (g c)) {x : Nat} (hx : x < 160) {v : Nat} {i w : Int32} (hi : i = nI x) (hw : w = wr v) : ∀ c, c < 160 → J_put 160 f i w c = wr (fu g x v c) := by
  subst hi hw
  intro c hc
  rw [J_put_n _ _ hx (by omega)]
  by_cases e : c = x
  · rw [e, upd_eq, fu_eq]
  · rw [upd_ne _ _ e, fu_ne _ _ e]; exact h c hc
theorem Hr_K {z : Sz} {C W : Nat → Nat} {t : TS} (h : Hr z C W t) {x : Nat} (hx : x < 160) {v : Nat} {i w : Int32} (hi : i = nI x) (hv : w = nI v) : Hr (sK z (fu z.K x v)) C W (sTK t (J_put 160 (tK t) i w)) :=
  ⟨put_row h.k hx hi hv, h.p, h.b, h.o, h.e, h.c, h.w, h.n, h.m⟩
theorem Hr_P {z : Sz} {C W : Nat → Nat} {t : TS} (h : Hr z C W t) {x : Nat} (hx : x < 160) {v : Nat} {i w : Int32} (hi : i = nI x) (hv : w = eI v) : Hr (sP z (fu z.P x v)) C W (sTP t (J_put 160 (tP t) i w)) :=
  ⟨h.k, put_row h.p hx hi hv, h.b, h.o, h.e, h.c, h.w, h.n, h.m⟩
theorem Hr_B {z : Sz} {C W : Nat → Nat} {t : TS} (h : Hr z C W t) {x : Nat} (hx : x < 160) {v : Nat} {i w : Int32} (hi : i = nI x) (hv : w = eI v) : Hr (sB z (fu z.B x v)) C W (sTB t (J_put 160 (tB t) i w)) :=
  ⟨h.k, h.p, put_row h.b hx hi hv, h.o, h.e, h.c, h.w, h.n, h.m⟩
theorem Hr_O {z : Sz} {C W : Nat → Nat} {t : TS} (h : Hr z C W t) {x : Nat} (hx : x < 160) {v : Nat} {i w : Int32} (hi : i = nI x) (hv : w = nI v) : Hr (sO z (fu z.O x v)) C W (sTO t (J_put 160 (tO t) i w)) :=
  ⟨h.k, h.p, h.b, put_row h.o hx hi hv, h.e, h.c, h.w, h.n, h.m⟩
theorem Hr_E {z : Sz} {C W : Nat → Nat} {t : TS} (h : Hr z C W t) {x : Nat} (hx : x < 160) {v : Nat} {i w : Int32} (hi : i = nI x) (hv : w = eI v) : Hr (sE z (fu z.E x v)) C W (sTE t (J_put 160 (tE t) i w)) :=
  ⟨h.k, h.p, h.b, h.o, put_row h.e hx hi hv, h.c, h.w, h.n, h.m⟩
theorem Hr_C {z : Sz} {C W : Nat → Nat} {t : TS} (h : Hr z C W t) {x : Nat} (hx : x < 160) {v : Nat} {i w : Int32} (hi : i = nI x) (hv : w = nI v) : Hr z (fu C x v) W (sTC t (J_put 160 (tC t) i w)) :=
  ⟨h.k, h.p, h.b, h.o, h.e, put_row h.c hx hi hv, h.w, h.n, h.m⟩
theorem Hr_W {z : Sz} {C W : Nat → Nat} {t : TS} (h : Hr z C W t) {x : Nat} (hx : x < 160) {v : Nat} {i w : Int32} (hi : i = nI x) (hv : w = nI v) : Hr z C (fu W x v) (sTW t (J_put 160 (tW t) i w)) :=
  ⟨h.k, h.p, h.b, h.o, h.e, h.c, put_row h.w hx hi hv, h.n, h.m⟩
theorem Hr_M {z : Sz} {C W : Nat → Nat} {t : TS} (h : Hr z C W t) {v : Nat} {w : Int32} (hv : w = nI v) : Hr (sM z v) C W (sTM t w) := ⟨h.k, h.p, h.b, h.o, h.e, h.c, h.w, h.n, hv⟩
theorem Hr_N {z : Sz} {C W : Nat → Nat} {t : TS} (h : Hr z C W t) {U : Nat → Nat} {X : Nat → List Nat} {e : ES} (he : He U X e) : Hr (sX z U X) C W (sTN t e) := ⟨h.k, h.p, h.b, h.o, h.e, h.c, h.w, he, h.m⟩
