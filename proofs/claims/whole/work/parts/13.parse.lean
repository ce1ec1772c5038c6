abbrev PF : Type := Nat → Nat → Nat
def upP (P : PF) (k f v : Nat) : PF := fun a b => if a = k ∧ b = f then v else P a b
def pfig (b lo hi : Nat) : Option Nat := if 48 + lo ≤ b ∧ b ≤ 48 + hi then some (b - 48) else none
def pcol (b : Nat) : Option Nat := if b = 114 then some 0 else if b = 121 then some 1 else if b = 107 then some 2 else none
def plet (b : Nat) : Option Nat := if 97 ≤ b ∧ b ≤ 104 then some (b - 97) else none
/-- what a byte says at its place in a poster -/
def pval (pl b : Nat) : Option Nat :=
  if pl = 0 then pfig b 0 1 else if pl = 1 then pfig b 0 9 else if pl = 2 then pfig b 0 5 else if pl = 3 then pcol b else if pl = 4 then pfig b 1 9 else if pl < 9 then plet b else none
def pset (P : PF) (k pl v : Nat) : PF :=
  if pl = 0 then upP P k 0 (10 * v) else if pl = 1 then upP P k 0 (P k 0 + v) else if pl < 5 then upP P k (pl - 1) v else upP (upP P k pl v) k 4 (pl - 4)
def pstep (b k pl : Nat) (P : PF) : Option (Nat × Nat × PF) :=
  if 5 < pl ∧ b = 59 then some (k + 1, 0, P) else if 8 ≤ k then none else match pval pl b with
    | none => none
    | some v => some (k, pl + 1, pset P k pl v)
def pgo : List Nat → Nat → Nat → Nat → PF → Option Nat × Nat × PF
  | [], i, k, pl, P => if i = 0 then (none, 0, P) else if pl ≤ 5 then (some i, 0, P) else (none, k + 1, P)
  | b :: bs, i, k, pl, P => match pstep b k pl P with
    | none => (some i, 0, P)
    | some q => pgo bs (i + 1) q.1 q.2.1 q.2.2
/-- the posters of a text: its fault, how many, which -/
def pText (bs : List Nat) : Option Nat × Nat × PF := pgo bs 0 0 0 (fun _ _ => 0)
def flt (o : Option Nat) : Int32 := match o with
  | none => -nI 1
  | some i => nI i
/-- of a poster the first pl bytes are taken: memory g (fields), w (letters) holds p -/
def Part (g w : Nat → Int32) (p : Nat → Nat) (pl : Nat) : Prop :=
  (1 ≤ pl → g 0 = nI (p 0) ∧ p 0 < 20 ∧ (pl = 1 → p 0 = 0 ∨ p 0 = 10)) ∧ (3 ≤ pl → g 1 = nI (p 1) ∧ p 1 < 6) ∧ (4 ≤ pl → g 2 = nI (p 2) ∧ p 2 < 3) ∧ (5 ≤ pl → g 3 = nI (p 3) ∧ 1 ≤ p 3 ∧ p 3 ≤ 9) ∧ (6 ≤ pl → g 4 = nI (p 4) ∧ p 4 = pl - 5 ∧ pl ≤ 9 ∧ ∀ j, j < p 4 → w j = nI (p (5 + j)) ∧ p (5 + j) < 8)
theorem Part.mono {g w g' w' : Nat → Int32} {p p' : Nat → Nat} {pl : Nat} (h : Part g w p pl) (hg : ∀ f, f < 5 → g' f = g f) (hw : ∀ j, j < 4 → w' j = w j) (hp : ∀ f, p' f = p f) : Part g' w' p' pl := by
  obtain ⟨h1, h2, h3, h4, h5⟩ := h
  refine ⟨fun z => ?_, fun z => ?_, fun z => ?_, fun z => ?_, fun z => ?_⟩
  · rw [hg 0 (by omega), hp]; exact h1 z
  · rw [hg 1 (by omega), hp]; exact h2 z
  · rw [hg 2 (by omega), hp]; exact h3 z
  · rw [hg 3 (by omega), hp]; exact h4 z
  · obtain ⟨q1, q2, q3, q4⟩ := h5 z
    rw [hg 4 (by omega), hp]
    refine ⟨q1, q2, q3, fun j hj => ?_⟩
    rw [hw j (by omega), hp]
    exact q4 j hj
/-- one byte more: the memory behind it, by what it now holds -/
theorem Part.step {g w g' w' : Nat → Int32} {P : PF} {k pl b v : Nat} (h : Part g w (P k) pl) (hv : pval pl b = some v)
    (h0 : pl = 0 → g' 0 = nI (10 * v)) (h1 : pl = 1 → g' 0 = nI (P k 0 + v)) (h2 : 2 ≤ pl → pl < 5 → g' (pl - 1) = nI v ∧ ∀ f, f < 4 → f ≠ pl - 1 → g' f = g f)
    (h3 : 5 ≤ pl → g' 4 = nI (pl - 4) ∧ w' (pl - 5) = nI v ∧ (∀ f, f < 4 → g' f = g f) ∧ ∀ j, j < 4 → j ≠ pl - 5 → w' j = w j) : Part g' w' (pset P k pl v k) (pl + 1) := by
  unfold pval at hv
  by_cases e0 : pl = 0
  · subst e0
    simp only [if_pos, pfig] at hv
    split at hv
    · cases hv
      refine ⟨fun _ => ?_, fun z => by omega, fun z => by omega, fun z => by omega, fun z => by omega⟩
      simp only [pset, if_pos, upP, and_self]
      exact ⟨h0 rfl, by omega, fun _ => by omega⟩
    · cases hv
  by_cases e1 : pl = 1
  · subst e1
    simp only [pfig] at hv
    have q := h.1 (by omega)
    have q2 := q.2.2 rfl
    simp at hv
    refine ⟨fun _ => ?_, fun z => by omega, fun z => by omega, fun z => by omega, fun z => by omega⟩
    have hps : pset P k 1 v k 0 = P k 0 + v := by simp [pset, upP]
    rw [hps]
    exact ⟨h1 rfl, by omega, fun z => by omega⟩
  by_cases e5 : pl < 5
  · obtain ⟨g1, g2⟩ := h2 (by omega) e5
    obtain ⟨p1, p2, p3, p4, p5⟩ := h
    have hps : ∀ f, pset P k pl v k f = if f = pl - 1 then v else P k f := by
      intro f
      simp only [pset, if_neg e0, if_neg e1, if_pos e5, upP, true_and]
    have e : pl = 2 ∨ pl = 3 ∨ pl = 4 := by omega
    rcases e with rfl | rfl | rfl
    · simp [pfig] at hv
      refine ⟨fun _ => ?_, fun _ => ?_, fun z => by omega, fun z => by omega, fun z => by omega⟩
      · rw [g2 0 (by omega) (by omega), hps, if_neg (by omega)]; exact ⟨(p1 (by omega)).1, (p1 (by omega)).2.1, fun z => by omega⟩
      · rw [hps, if_pos (by omega)]; exact ⟨g1, by omega⟩
    · simp [pcol] at hv
      refine ⟨fun _ => ?_, fun _ => ?_, fun z => ?_, fun z => by omega, fun z => by omega⟩
      · rw [g2 0 (by omega) (by omega), hps, if_neg (by omega)]; exact ⟨(p1 (by omega)).1, (p1 (by omega)).2.1, fun z => by omega⟩
      · rw [g2 1 (by omega) (by omega), hps, if_neg (by omega)]; exact p2 (by omega)
      · rw [hps, if_pos (by omega)]; refine ⟨g1, ?_⟩
        split at hv
        · cases hv; omega
        · split at hv
          · cases hv; omega
          · split at hv
            · cases hv; omega
            · cases hv
    · simp [pfig] at hv
      refine ⟨fun _ => ?_, fun _ => ?_, fun z => ?_, fun z => ?_, fun z => by omega⟩
      · rw [g2 0 (by omega) (by omega), hps, if_neg (by omega)]; exact ⟨(p1 (by omega)).1, (p1 (by omega)).2.1, fun z => by omega⟩
      · rw [g2 1 (by omega) (by omega), hps, if_neg (by omega)]; exact p2 (by omega)
      · rw [g2 2 (by omega) (by omega), hps, if_neg (by omega)]; exact p3 (by omega)
      · rw [hps, if_pos (by omega)]; exact ⟨g1, by omega, by omega⟩
  · obtain ⟨g1, g2, g3, g4⟩ := h3 (by omega)
    obtain ⟨p1, p2, p3, p4, p5⟩ := h
    have hps : ∀ f, pset P k pl v k f = if f = 4 then pl - 4 else if f = pl then v else P k f := by
      intro f
      simp only [pset, if_neg e0, if_neg e1, if_neg e5, upP, true_and]
    simp only [if_neg e0, if_neg e1, if_neg (show ¬ pl = 2 by omega), if_neg (show ¬ pl = 3 by omega), if_neg (show ¬ pl = 4 by omega)] at hv
    split at hv
    · next e9 =>
      simp [plet] at hv
      refine ⟨fun _ => ?_, fun _ => ?_, fun z => ?_, fun z => ?_, fun z => ?_⟩
      · rw [g3 0 (by omega), hps, if_neg (by omega), if_neg (by omega)]; exact ⟨(p1 (by omega)).1, (p1 (by omega)).2.1, fun z => by omega⟩
      · rw [g3 1 (by omega), hps, if_neg (by omega), if_neg (by omega)]; exact p2 (by omega)
      · rw [g3 2 (by omega), hps, if_neg (by omega), if_neg (by omega)]; exact p3 (by omega)
      · rw [g3 3 (by omega), hps, if_neg (by omega), if_neg (by omega)]; exact p4 (by omega)
      · rw [hps 4, if_pos rfl]
        refine ⟨g1, by omega, by omega, fun j hj => ?_⟩
        rw [hps, if_neg (by omega)]
        by_cases ej : j = pl - 5
        · rw [if_pos (by omega), ej]; exact ⟨g2, by omega⟩
        · rw [if_neg (by omega), g4 j (by omega) ej]
          exact (p5 (by omega)).2.2.2 j (by have := (p5 (by omega)).2.1; omega)
    · cases hv
theorem pset_other (P : PF) (k pl v : Nat) {a : Nat} (h : a ≠ k) (f : Nat) : pset P k pl v a f = P a f := by
  unfold pset
  split
  · simp [upP, h]
  · split
    · simp [upP, h]
    · split <;> simp [upP, h]
theorem sub_cs (b c : Nat) (hb : b < 2 ^ 30) (hc : c < 2 ^ 30) : (c ≤ b ∧ nI b - nI c = nI (b - c)) ∨ (b < c ∧ nI b - nI c < 0) := by
  by_cases h : c ≤ b
  · exact Or.inl ⟨h, pk_sub h⟩
  · exact Or.inr ⟨by omega, pk_sneg hc (by omega)⟩
