theorem arrV_congr (cI : ClassId) {n : Nat} {f g : Nat → Value} (h : ∀ j, j < n → f j = g j) : arrV cI n f = arrV cI n g := by
  unfold arrV
  congr 2
  funext j
  exact h j.val j.isLt
/-- the ints of a cell -/
def ival (c : BC) (j : Nat) : Int32 := match c with
  | .inl fs => (match fs.getD j none with
    | some (.inl x) => x
    | _ => 0)
  | .inr (.inl (_, w)) => lkI w j
  | _ => 0
theorem fin_at {X : WX} {q : Nat × Nat} {c : BC} {a : Nat} {H : Heap} (hf : finC q c = true) (h : va_at X.D wCl (a, cellB X q c) H) : va_at X.D wCl (a, cellF X (ival c) (fun _ => 0) q.1 q.2) H := by
  rcases c with fs | ⟨n, w⟩ | n | ⟨k, n, w⟩
  · simp only [finC, Bool.and_eq_true, decide_eq_true_eq, List.all_eq_true, List.mem_range] at hf
    obtain ⟨⟨h9, hlen⟩, hall⟩ := hf
    rw [cellF_obj X _ _ q.2 h9]
    have e : (List.range (NF q.1)).map (fv X (ival (.inl fs)) q.1 q.2) = fs.map (fvB X) := by
      apply List.ext_getElem?
      intro j
      by_cases hj : j < NF q.1
      · have hjl : j < fs.length := by omega
        have h1 := hall j hj
        have hg : fs.getD j none = fs[j] := by simp [List.getD, hjl]
        rw [List.getElem?_map, List.getElem?_range hj, List.getElem?_map, List.getElem?_eq_getElem hjl]
        simp only [Option.map_some]
        refine congrArg some ?_
        unfold fv
        cases hk : fk q.1 j with
        | none =>
          rw [hk] at h1
          simp only [ival]
          rw [hg] at h1 ⊢
          generalize fs[j] = o at *
          rcases o with _ | x | x | x
          · cases h1
          · rfl
          · cases h1
          · cases h1
        | some p =>
          rw [hk] at h1
          obtain ⟨c', _ | z⟩ := p
          · have h1 := of_decide_eq_true h1
            rw [hg] at h1
            rw [h1]
            rfl
          · have h1 := of_decide_eq_true h1
            rw [hg] at h1
            rw [h1]
            rfl
      · rw [List.getElem?_eq_none (by simpa using hj), List.getElem?_eq_none (by simp; omega)]
    rw [e]
    exact h
  · simp only [finC, Bool.and_eq_true, decide_eq_true_eq] at hf
    rw [cellF_int X _ _ q.2 hf.1, ← hf.2]
    exact h
  · simp only [finC, Bool.and_eq_true, decide_eq_true_eq] at hf
    rw [hf.1, cellF_ch, ← hf.2]
    exact h
  · simp only [finC] at hf
    cases hr : ra q.1 with
    | none => rw [hr] at hf; cases hf
    | some z =>
      obtain ⟨c', o, n', k'⟩ := z
      rw [hr] at hf
      simp only [Bool.and_eq_true, decide_eq_true_eq, List.all_eq_true, List.mem_range] at hf
      obtain ⟨⟨rfl, rfl⟩, hall⟩ := hf
      rw [cellF_ref X _ _ q.2 hr]
      have h' : H[a]? = some (arrV (X.kA k) n (fun j => va_rf ((lkR w j).map (fun q => X.ad q.1 q.2)))) := h
      show H[a]? = some (arrV (X.kA k) n (fun j => va_rf (some (X.ad c' (o + j)))))
      rw [h']
      refine congrArg some (arrV_congr _ fun j hj => ?_)
      rw [hall j hj]
      rfl
def memB (h : BH) : Mem := (fun c i j => match bix h (c, i) with
  | some x => ival x.2 j
  | none => 0, fun _ => 0)
theorem h3_at {h : BH} (hok : finH h = true) {q : Nat × Nat} (hq : q ∈ CI) : ∃ j c, bix h q = some (j, c) ∧ finC q c = true := by
  have hh := List.all_eq_true.mp hok q hq
  cases hb : bix h q with
  | none => rw [hb] at hh; cases hh
  | some x => rw [hb] at hh; exact ⟨x.1, x.2, rfl, hh⟩
theorem rd_memB (h : BH) (c i j : Nat) : rd (memB h) c i j = (match bix h (c, i) with
    | some x => ival x.2 j
    | none => 0) := rfl
theorem u0_at {h : BH} {q : Nat × Nat} {j : Nat} {c : BC} (hb : bix h q = some (j, c)) : (memB h).1 q.1 q.2 = ival c := by
  funext k
  show rd (memB h) q.1 q.2 k = _
  rw [rd_memB, show (q.1, q.2) = q from rfl, hb]
theorem world_P {h : BH} (hok : finH h = true) {X : WX} {H : Heap} (hP : va_P X.D wCl (wsB X h) H) : va_P X.D wCl (wsx X (memB h)) H := by
  intro k z hz
  rw [wsx, List.getElem?_map] at hz
  cases hq : CI[k]? with
  | none => rw [hq] at hz; cases hz
  | some q =>
    rw [hq] at hz
    cases hz
    obtain ⟨j, c, hb, hf⟩ := h3_at hok (List.mem_of_getElem? hq)
    have h1 := hP j _ (wsB_at (bix_at h q j c hb))
    show va_at X.D wCl (X.ad q.1 q.2, cellF X ((memB h).1 q.1 q.2) (fun _ => 0) q.1 q.2) H
    rw [u0_at hb]
    exact fin_at hf h1
theorem world_I {h : BH} (hok : finH h = true) {X : WX} {A : Nat → Prop} (hD : va_D A (wsB X h)) : InjX X := by
  intro a b p q ha hb he
  obtain ⟨j, c, h1, -⟩ := h3_at hok (List.mem_of_getElem? ha)
  obtain ⟨j', c', h2, -⟩ := h3_at hok (List.mem_of_getElem? hb)
  have g1 := bix_at h p j c h1
  have g2 := bix_at h q j' c' h2
  have hj := hD.1 j j' _ _ (wsB_at g1) (wsB_at g2) he
  subst hj
  rw [g1] at g2
  have hpq : p = q := (Prod.mk.inj (Option.some.inj g2)).1
  subst hpq
  exact (CI_inv ha).1.symm.trans (CI_inv hb).1
theorem world_A {h : BH} (hok : finH h = true) {X : WX} {A : Nat → Prop} (hD : va_D A (wsB X h)) : ∀ q, AX X q → A q := by
  rintro z ⟨k, q, hq, rfl⟩
  obtain ⟨j, c, h1, -⟩ := h3_at hok (List.mem_of_getElem? hq)
  exact hD.2 j _ (wsB_at (bix_at h q j c h1))
/-- the start of what is told -/
def A0 : AS := (fun _ => [], (0, fun _ => 0, fun _ => 0), (0, fun _ => 0, fun _ => 0, fun _ => 0), fun _ => none, 0)
def FL : List (Nat × Nat × Nat × Int32) := [(6, 0, 1, nI 0), (6, 1, 1, nI 0), (6, 2, 1, nI 0), (6, 0, 2, -nI 1), (6, 1, 2, -nI 1), (6, 2, 2, -nI 1), (2, 0, 5, nI 0), (2, 0, 6, nI 0), (2, 0, 7, nI 0), (2, 0, 8, nI 0), (2, 0, 9, -nI 1), (4, 0, 3, nI 0), (3, 0, 1, nI 1), (3, 1, 1, nI 1), (3, 2, 1, nI 1), (3, 3, 1, nI 1), (7, 0, 11, nI 0), (7, 0, 12, nI 0), (36, 0, 0, nI 0), (36, 0, 1, nI 0), (36, 0, 2, nI 0), (8, 0, 13, nI 0), (8, 0, 15, nI 0), (8, 0, 16, -nI 1), (8, 0, 23, nI 0), (31, 0, 0, -nI 1), (31, 0, 1, -nI 1), (31, 0, 2, -nI 1), (31, 0, 3, -nI 1), (8, 0, 4, nI 0)]
def factsB (h : BH) : Bool := FL.all (fun e => decide (rd (memB h) e.1 e.2.1 e.2.2.1 = e.2.2.2)) && (List.range 20).all (fun a => decide (rd (memB h) 14 0 a = nI 0)) && (List.range 6).all (fun a => decide (rd (memB h) 15 0 a = -nI 1))
set_option maxRecDepth 100000 in
theorem facts_ok : factsB h3 = true := by decide +kernel
theorem start_inv {h : BH} (hok : factsB h = true) : Inv (memB h) := by
  simp only [factsB, Bool.and_eq_true, List.all_eq_true, decide_eq_true_eq, List.mem_range] at hok
  obtain ⟨⟨hf, h14⟩, h15⟩ := hok
  generalize memB h = u at *
  have f : ∀ c i j v, (c, i, j, v) ∈ FL → rd u c i j = v := fun c i j v hv => hf (c, i, j, v) hv
  have z3 : ∀ {P : Nat → Prop}, P 0 → P 1 → P 2 → ∀ t, t < 3 → P t := fun a b c t ht => by
    have : t = 0 ∨ t = 1 ∨ t = 2 := by omega
    rcases this with rfl | rfl | rfl <;> assumption
  have z4 : ∀ {P : Nat → Prop}, P 0 → P 1 → P 2 → P 3 → ∀ t, t < 4 → P t := fun a b c d t ht => by
    have : t = 0 ∨ t = 1 ∨ t = 2 ∨ t = 3 := by omega
    rcases this with rfl | rfl | rfl | rfl <;> assumption
  have nn : ∀ (i b : Nat), ([] : List Nat)[i]? = some b → False := fun i b hb => by simp at hb
  have nz : ∀ i, ¬ i < 0 := Nat.not_lt_zero
  have rr : ∀ a, rRain [] a = 0 := fun a => by simp [rRain, rFault]
  have ll : ∀ a, lLaw [] a = -nI 1 := fun a => by simp [lLaw, lFault, lLet]
  refine ⟨A0, ⟨?_, ?_, ?_, ?_, ?_, ?_, ?_⟩, ?_, ?_, ?_, ?_⟩
  · refine z3 ?_ ?_ ?_
    all_goals exact ⟨f _ _ _ _ (by decide), Nat.zero_le _, fun i b hb => (nn i b hb).elim, fun b hb => absurd hb List.not_mem_nil⟩
  · exact ⟨f _ _ _ _ (by decide), ⟨by decide, fun k hk => absurd hk (nz k)⟩, f _ _ _ _ (by decide), fun k hk => absurd hk (nz k)⟩
  · exact ⟨f _ _ _ _ (by decide), fun a ha => by rw [show A0.R a = 0 from rr a]; exact h14 a ha, f _ _ _ _ (by decide)⟩
  · exact ⟨f _ _ _ _ (by decide), fun a ha => by rw [show A0.V a = -nI 1 from ll a]; exact h15 a ha, f _ _ _ _ (by decide), by decide⟩
  · exact ⟨f _ _ _ _ (by decide), by decide, f _ _ _ _ (by decide), fun i hi => absurd hi (nz i)⟩
  · exact ⟨⟨⟨f _ _ _ _ (by decide), by decide, fun i hi => absurd hi (nz i)⟩, fun i hi => absurd hi (nz i)⟩, z4 (f _ _ _ _ (by decide)) (f _ _ _ _ (by decide)) (f _ _ _ _ (by decide)) (f _ _ _ _ (by decide)), f _ _ _ _ (by decide), by decide⟩
  · exact Or.inl (f _ _ _ _ (by decide))
  · refine z3 ?_ ?_ ?_
    all_goals exact ⟨f _ _ _ _ (by decide), Nat.zero_le _, fun i b hb => (nn i b hb).elim, fun b hb => absurd hb List.not_mem_nil⟩
  · exact ⟨f _ _ _ _ (by decide), by decide, f _ _ _ _ (by decide), f _ _ _ _ (by decide), fun i hi => absurd hi (nz i)⟩
  · exact ⟨f _ _ _ _ (by decide), by decide, fun i hi => absurd hi (nz i)⟩
  · exact ⟨z4 (f _ _ _ _ (by decide)) (f _ _ _ _ (by decide)) (f _ _ _ _ (by decide)) (f _ _ _ _ (by decide)), f _ _ _ _ (by decide), by decide⟩
