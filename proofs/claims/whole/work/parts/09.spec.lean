def upN (f : Nat → Nat) (k v : Nat) : Nat → Nat := fun j => if j = k then v else f j
/-- a wall: heights by column, owners and inks by 8 column + layer -/
abbrev WS : Type := (Nat → Nat) × (Nat → Nat) × (Nat → Nat)
/-- what is told: how many posters, their fields (day, column, colour, thick, size, letters), how many tears, their days, their columns, the one that is not (100: none) -/
abbrev SC : Type := Nat × (Nat → Nat → Nat) × Nat × (Nat → Nat) × (Nat → Nat) × Nat
abbrev SC.n (S : SC) : Nat := S.1
abbrev SC.P (S : SC) : Nat → Nat → Nat := S.2.1
abbrev SC.m (S : SC) : Nat := S.2.2.1
abbrev SC.td (S : SC) : Nat → Nat := S.2.2.2.1
abbrev SC.tc (S : SC) : Nat → Nat := S.2.2.2.2.1
abbrev SC.sp (S : SC) : Nat := S.2.2.2.2.2
def w0 : WS := (fun _ => 0, fun _ => 0, fun _ => 0)
def tearW (c : Nat) (w : WS) : WS := (upN w.1 c (w.1 c - 1), w.2)
def layW (k c : Nat) (w : WS) : WS := if w.1 c < 8 then (upN w.1 c (w.1 c + 1), upN w.2.1 (8 * c + w.1 c) k, upN w.2.2 (8 * c + w.1 c) 9) else w
def stickN (k a : Nat) : Nat → WS → WS
  | 0, w => w
  | n + 1, w => if a + n < 6 then layW k (a + n) (stickN k a n w) else stickN k a n w
def sticksN (P : Nat → Nat → Nat) (d : Nat) : Nat → WS → WS
  | 0, w => w
  | n + 1, w => if P n 0 = d then stickN n (P n 1) (P n 4) (sticksN P d n w) else sticksN P d n w
def tearsN (td tc : Nat → Nat) (sp d : Nat) : Nat → WS → WS
  | 0, w => w
  | i + 1, w => if td i = d ∧ i ≠ sp then tearW (tc i) (tearsN td tc sp d i w) else tearsN td tc sp d i w
def openD (S : SC) (d : Nat) (w : WS) : WS := sticksN S.P d S.n (tearsN S.td S.tc S.sp d S.m w)
def lookN (P : Nat → Nat → Nat) (w : WS) (c : Nat) : Nat → Nat → Nat
  | 0, _ => 0
  | l + 1, left => if left < P (w.2.1 (8 * c + (l + 1))) 3 then l + 1 else lookN P w c l (left - P (w.2.1 (8 * c + (l + 1))) 3)
def bleachC (P : Nat → Nat → Nat) (c : Nat) (w : WS) : WS := if 0 < w.1 c then (w.1, w.2.1, upN w.2.2 (8 * c + (w.1 c - 1)) (w.2.2 (8 * c + (w.1 c - 1)) - (3 - P (w.2.1 (8 * c + (w.1 c - 1))) 2))) else w
def bleachN (P : Nat → Nat → Nat) : Nat → WS → WS
  | 0, w => w
  | c + 1, w => bleachC P c (bleachN P c w)
def closeW (P : Nat → Nat → Nat) (rain : Nat) (w : WS) : WS := if rain = 0 then bleachN P 6 w else w
def thickN (P : Nat → Nat → Nat) (w : WS) (c : Nat) : Nat → Nat
  | 0 => 0
  | l + 1 => thickN P w c l + P (w.2.1 (8 * c + l)) 3
def factW (P : Nat → Nat → Nat) (w : WS) (rain c k : Nat) : Int32 :=
  if k = 3 then nI (w.1 c) else if k = 4 then nI (thickN P w c (w.1 c)) else
  if w.1 c = 0 then (if k = 0 then -nI 1 else if k = 1 then -nI 1 else nI 0) else
  if k = 0 then (if w.2.2 (8 * c + lookN P w c (w.1 c - 1) rain) = 0 then -nI 1 else nI (P (w.2.1 (8 * c + lookN P w c (w.1 c - 1) rain)) (5 + (c - P (w.2.1 (8 * c + lookN P w c (w.1 c - 1) rain)) 1)))) else
  if k = 1 then nI (w.2.1 (8 * c + lookN P w c (w.1 c - 1) rain)) else
  if k = 2 then nI (w.1 c - 1 - lookN P w c (w.1 c - 1) rain) else nI (w.2.2 (8 * c + lookN P w c (w.1 c - 1) rain))
def stepD (S : SC) (d rain : Nat) (w : WS) : WS := closeW S.P rain (openD S d w)
def wall (S : SC) (R : Nat → Nat) : Nat → WS
  | 0 => w0
  | d + 1 => stepD S d (R d) (wall S R d)
def fct (S : SC) (R : Nat → Nat) (d c k : Nat) : Int32 := factW S.P (openD S d (wall S R d)) (R d) c k
/-- posters as the text allows them -/
def PV (n : Nat) (P : Nat → Nat → Nat) : Prop := n ≤ 8 ∧ ∀ k, k < n → P k 0 < 20 ∧ P k 1 < 6 ∧ P k 2 < 3 ∧ 1 ≤ P k 3 ∧ P k 3 ≤ 9 ∧ 1 ≤ P k 4 ∧ P k 4 ≤ 4 ∧ ∀ j, j < P k 4 → P k (5 + j) < 8
/-- a wall of these posters -/
def WI (n : Nat) (P : Nat → Nat → Nat) (w : WS) : Prop := ∀ c, c < 6 → w.1 c ≤ 8 ∧ ∀ l, l < w.1 c → w.2.1 (8 * c + l) < n ∧ P (w.2.1 (8 * c + l)) 1 ≤ c ∧ c < P (w.2.1 (8 * c + l)) 1 + P (w.2.1 (8 * c + l)) 4 ∧ w.2.2 (8 * c + l) ≤ 9
theorem WI_0 (n : Nat) (P : Nat → Nat → Nat) : WI n P w0 := fun _ _ => ⟨Nat.zero_le _, fun _ h => absurd h (Nat.not_lt_zero _)⟩
theorem WI_tear {n : Nat} {P : Nat → Nat → Nat} {w : WS} (h : WI n P w) (c : Nat) : WI n P (tearW c w) := by
  intro a ha
  have h1 := h a ha
  simp only [tearW, upN]
  split
  · next e => subst e; exact ⟨by omega, fun l hl => h1.2 l (by omega)⟩
  · exact h1
theorem WI_lay {n : Nat} {P : Nat → Nat → Nat} {w : WS} (h : WI n P w) {k c : Nat} (hk : k < n) (h1 : P k 1 ≤ c) (h2 : c < P k 1 + P k 4) (hc : c < 6) : WI n P (layW k c w) := by
  unfold layW
  split
  · next h8 =>
    intro a ha
    obtain ⟨g1, g2⟩ := h a ha
    by_cases e : a = c
    · subst e
      simp only [upN, if_pos]
      refine ⟨by omega, fun l hl => ?_⟩
      by_cases el : l = w.1 a
      · subst el
        simp only [if_pos]
        exact ⟨hk, h1, h2, Nat.le_refl _⟩
      · rw [if_neg (by omega), if_neg (by omega)]
        exact g2 l (by omega)
    · simp only [upN, if_neg e]
      refine ⟨g1, fun l hl => ?_⟩
      rw [if_neg (by omega), if_neg (by omega)]
      exact g2 l hl
  · exact h
theorem WI_stick {n : Nat} {P : Nat → Nat → Nat} {k : Nat} (hk : k < n) : ∀ (i : Nat) (w : WS), WI n P w → i ≤ P k 4 → WI n P (stickN k (P k 1) i w) := by
  intro i
  induction i with
  | zero => intro w h _; exact h
  | succ i ih =>
    intro w h hi
    simp only [stickN]
    split
    · exact WI_lay (ih w h (by omega)) hk (by omega) (by omega) (by omega)
    · exact ih w h (by omega)
theorem WI_sticks {n : Nat} {P : Nat → Nat → Nat} (d : Nat) : ∀ (i : Nat) (w : WS), WI n P w → i ≤ n → WI n P (sticksN P d i w) := by
  intro i
  induction i with
  | zero => intro w h _; exact h
  | succ i ih =>
    intro w h hi
    simp only [sticksN]
    split
    · exact WI_stick (by omega) _ _ (ih w h (by omega)) (Nat.le_refl _)
    · exact ih w h (by omega)
theorem WI_tears {n : Nat} {P : Nat → Nat → Nat} (td tc : Nat → Nat) (sp d : Nat) : ∀ (i : Nat) (w : WS), WI n P w → WI n P (tearsN td tc sp d i w) := by
  intro i
  induction i with
  | zero => intro w h; exact h
  | succ i ih =>
    intro w h
    simp only [tearsN]
    split
    · exact WI_tear (ih w h) _
    · exact ih w h
theorem WI_open {S : SC} {d : Nat} {w : WS} (h : WI S.n S.P w) : WI S.n S.P (openD S d w) := WI_sticks d _ _ (WI_tears _ _ _ d _ _ h) (Nat.le_refl _)
theorem WI_bleach {n : Nat} {P : Nat → Nat → Nat} {w : WS} (h : WI n P w) (c : Nat) : WI n P (bleachC P c w) := by
  unfold bleachC
  split
  · intro a ha
    obtain ⟨g1, g2⟩ := h a ha
    refine ⟨g1, fun l hl => ?_⟩
    obtain ⟨q1, q2, q3, q4⟩ := g2 l hl
    refine ⟨q1, q2, q3, ?_⟩
    simp only [upN]
    split
    · next e => rw [← e]; omega
    · exact q4
  · exact h
theorem WI_bleachN {n : Nat} {P : Nat → Nat → Nat} : ∀ (c : Nat) (w : WS), WI n P w → WI n P (bleachN P c w) := by
  intro c
  induction c with
  | zero => intro w h; exact h
  | succ c ih => intro w h; exact WI_bleach (ih w h) c
theorem WI_step {S : SC} {d rain : Nat} {w : WS} (h : WI S.n S.P w) : WI S.n S.P (stepD S d rain w) := by
  unfold stepD closeW
  split
  · exact WI_bleachN 6 _ (WI_open h)
  · exact WI_open h
theorem WI_wall (S : SC) (R : Nat → Nat) : ∀ d, WI S.n S.P (wall S R d) := by
  intro d
  induction d with
  | zero => exact WI_0 _ _
  | succ d ih => exact WI_step ih
theorem look_lt (P : Nat → Nat → Nat) (w : WS) (c : Nat) : ∀ l left, lookN P w c l left ≤ l := by
  intro l
  induction l with
  | zero => intro left; exact Nat.le_refl _
  | succ l ih => intro left; simp only [lookN]; split; exact Nat.le_refl _; exact Nat.le_succ_of_le (ih _)
/-- the heights never pass the posters that have been stuck -/
def stuckN (P : Nat → Nat → Nat) (d : Nat) : Nat → Nat
  | 0 => 0
  | n + 1 => stuckN P d n + (if P n 0 < d then 1 else 0)
-- how a wall lies in memory: heights, owners, inks in families a, b, e
def PlG (a b e : Nat) (u : Mem) (t : Nat) (w : WS) : Prop := ∀ c, c < 6 → rd u a t c = nI (w.1 c) ∧ w.1 c ≤ 8 ∧ ∀ l, l < w.1 c → rd u b t (8 * c + l) = nI (w.2.1 (8 * c + l)) ∧ rd u e t (8 * c + l) = nI (w.2.2 (8 * c + l))
theorem PlG.same {a b e : Nat} {u v : Mem} {t t' : Nat} {w : WS} (h : PlG a b e u t w) (h1 : ∀ j, j < 6 → rd v a t' j = rd u a t j) (h2 : ∀ j, j < 48 → rd v b t' j = rd u b t j) (h3 : ∀ j, j < 48 → rd v e t' j = rd u e t j) : PlG a b e v t' w := by
  intro c hc
  obtain ⟨g1, g2, g3⟩ := h c hc
  refine ⟨by rw [h1 c hc, g1], g2, fun l hl => ?_⟩
  rw [h2 _ (by omega), h3 _ (by omega)]
  exact g3 l hl
theorem PlG.tear {a b e : Nat} {u : Mem} {t : Nat} {w : WS} (h : PlG a b e u t w) (hab : b ≠ a) (hae : e ≠ a) {c : Nat} (hc : c < 6) : PlG a b e (wr u a t c (nI (w.1 c - 1))) t (tearW c w) := by
  intro x hx
  obtain ⟨g1, g2, g3⟩ := h x hx
  simp only [rd_wr, tearW, upN, hab, hae, false_and, if_false, true_and]
  by_cases e1 : x = c
  · subst e1
    simp only [if_pos]
    exact ⟨trivial, by omega, fun l hl => g3 l (by omega)⟩
  · simp only [if_neg e1]
    exact ⟨g1, g2, g3⟩
theorem PlG.lay {a b e : Nat} {u : Mem} {t : Nat} {w : WS} (h : PlG a b e u t w) (hab : b ≠ a) (hae : e ≠ a) (hbe : b ≠ e) {c k : Nat} (hc : c < 6) (h8 : w.1 c < 8) : PlG a b e (wr (wr (wr u b t (8 * c + w.1 c) (nI k)) e t (8 * c + w.1 c) (nI 9)) a t c (nI (w.1 c + 1))) t (layW k c w) := by
  intro x hx
  obtain ⟨g1, g2, g3⟩ := h x hx
  simp only [rd_wr, layW, if_pos h8, upN, hab, hae, hbe, Ne.symm hab, Ne.symm hae, Ne.symm hbe, false_and, if_false, true_and]
  by_cases e1 : x = c
  · subst e1
    simp only [if_pos]
    refine ⟨trivial, by omega, fun l hl => ?_⟩
    by_cases el : l = w.1 x
    · subst el
      simp
    · rw [if_neg (by omega), if_neg (by omega), if_neg (by omega), if_neg (by omega)]
      exact g3 l (by omega)
  · simp only [if_neg e1]
    refine ⟨g1, g2, fun l hl => ?_⟩
    rw [if_neg (by omega), if_neg (by omega), if_neg (by omega), if_neg (by omega)]
    exact g3 l hl
theorem PlG.bleach {a b e : Nat} {u : Mem} {t : Nat} {w : WS} (h : PlG a b e u t w) (hae : a ≠ e) (hbe : b ≠ e) {P : Nat → Nat → Nat} {c : Nat} (hc : c < 6) (h0 : 0 < w.1 c) : PlG a b e (wr u e t (8 * c + (w.1 c - 1)) (nI (w.2.2 (8 * c + (w.1 c - 1)) - (3 - P (w.2.1 (8 * c + (w.1 c - 1))) 2)))) t (bleachC P c w) := by
  have h8 := (h c hc).2.1
  intro x hx
  obtain ⟨g1, g2, g3⟩ := h x hx
  simp only [rd_wr, bleachC, if_pos h0, upN, hae, hbe, false_and, if_false, true_and]
  refine ⟨g1, g2, fun l hl => ?_⟩
  by_cases e1 : 8 * x + l = 8 * c + (w.1 c - 1)
  · rw [if_pos e1, if_pos e1]
    exact ⟨(g3 l hl).1, rfl⟩
  · rw [if_neg e1, if_neg e1]
    exact g3 l hl
