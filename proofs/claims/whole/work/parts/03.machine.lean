abbrev Sg : Type := MethodName × ByteArray × Nat × Option FieldType
abbrev En : Type := Instr × Nat × Nat × Nat × List Nat × Sg
abbrev Cd : Type := List (Nat × List En)
abbrev Mth : Type := Sg × String × Cd
def kI (a b : Nat) : Int32 := if b = 0 then nI a else - nI a
def kL (a b : Nat) : Int64 := if b = 0 then lN a else - lN a
def pcOf (cd : Cd) (b : Nat) : Nat := (cd.getD b (0, [])).1
def esOf (cd : Cd) (b : Nat) : List En := (cd.getD b (0, [])).2
def rmD (d : Nat) : Room := { frames := d, cells := 0, slots := 0, locals := 40 * d }
def wsG (g : Sg) : List Cond := .code g.1 g.2.1 g.2.2.1 g.2.2.2 :: tg
-- locals
def lk : List (Option MV) → Nat → Option MV
  | [], _ => none
  | x :: _, 0 => x
  | _ :: r, n + 1 => lk r n
def sk : List (Option MV) → Nat → Option MV → List (Option MV)
  | [], _, _ => []
  | _ :: r, 0, v => v :: r
  | x :: r, n + 1, v => x :: sk r n v
def lgq (o : Option MV) : Bool := match o with
  | some (.inr (.inl _)) => true
  | _ => false
def clr (L : List (Option MV)) (i : Nat) : List (Option MV) := match i with
  | 0 => L
  | j + 1 => if lgq (lk L j) = true then sk L j none else L
def st1 (L : List (Option MV)) (i : Nat) (v : MV) : List (Option MV) := sk (clr L i) i (some v)
def st2 (L : List (Option MV)) (i : Nat) (v : MV) : List (Option MV) := sk (sk (clr L i) i (some v)) (i + 1) none
theorem lk_sk (L : List (Option MV)) : ∀ (i j : Nat) (v : Option MV), lk (sk L i v) j = if i = j ∧ j < L.length then v else lk L j := by
  induction L with
  | nil => intro i j v; simp [sk, lk]
  | cons x r ih =>
    intro i j v
    cases i with
    | zero => cases j <;> simp [sk, lk]
    | succ i =>
      cases j with
      | zero => simp [sk, lk]
      | succ j => simp [sk, lk, ih]
theorem sk_len (L : List (Option MV)) : ∀ (i : Nat) (v : Option MV), (sk L i v).length = L.length := by
  induction L with
  | nil => intro i v; rfl
  | cons x r ih =>
    intro i v
    cases i with
    | zero => rfl
    | succ i => simp [sk, ih]
/-- the locals hold at least what the list says -/
def LV (X : WX) (ls : Array Slot) (nL : Nat) (L : List (Option MV)) : Prop := ∃ lv : List (Nat × Value), lv_has ls nL lv ∧ ∀ (i : Nat) (v : MV), lk L i = some v → (i, vv X v) ∈ lv
theorem LV.at {X : WX} {ls : Array Slot} {nL : Nat} {L : List (Option MV)} (h : LV X ls nL L) {i : Nat} {v : MV} (hi : lk L i = some v) : ls[i]? = some (.val (vv X v)) := by
  obtain ⟨lv, h1, h2⟩ := h
  exact h1.2.2 _ (h2 i v hi)
theorem clr_at {L : List (Option MV)} {i j : Nat} {w : MV} (h : lk (clr L i) j = some w) : lk L j = some w ∧ ¬ (j + 1 = i ∧ lgq (some w) = true) := by
  cases i with
  | zero => exact ⟨h, fun z => by omega⟩
  | succ i =>
    simp only [clr] at h
    split at h
    · next hg =>
      rw [lk_sk] at h
      split at h
      · cases h
      · next hn =>
        refine ⟨h, fun z => ?_⟩
        have hj : j = i := by omega
        subst hj
        rw [h] at hg
        have : j < L.length := by
          rcases Nat.lt_or_ge j L.length with q | q
          · exact q
          · exfalso
            have : ∀ (L : List (Option MV)) (j : Nat), L.length ≤ j → lk L j = none := by
              intro L
              induction L with
              | nil => intro j _; rfl
              | cons x r ih => intro j hj; cases j with
                | zero => simp at hj
                | succ j => exact ih j (by simpa using hj)
            rw [this L j q] at h
            cases h
        exact hn ⟨rfl, this⟩
    · next hg =>
      refine ⟨h, fun z => ?_⟩
      have hj : j = i := by omega
      subst hj
      rw [h] at hg
      exact hg z.2
theorem vv_cat (X : WX) (v : MV) : (vv X v).category = if lgq (some v) = true then 2 else 1 := by
  rcases v with x | x | x <;> rfl
theorem LV.st1 {X : WX} {nL : Nat} {L : List (Option MV)} {i : Nat} {v : MV} {lv : List (Nat × Value)} (h2 : ∀ (i : Nat) (v : MV), lk L i = some v → (i, vv X v) ∈ lv) {ls' : Array Slot} (h : lv_has ls' nL ((i, vv X v) :: lv.filter (fun q => !(q.1 == i) && !(q.1 + 1 == i && q.2.category == 2)))) : LV X ls' nL (st1 L i v) := by
  refine ⟨_, h, fun j w hj => ?_⟩
  unfold Jvm.Pilot.CPosterWallLaw_law_r4334_e2e93d.st1 at hj
  rw [lk_sk] at hj
  split at hj
  · next hc => cases hj; rw [hc.1]; exact List.mem_cons_self
  · next hc =>
    obtain ⟨q1, q2⟩ := clr_at hj
    by_cases hij : i = j
    · subst hij
      exfalso
      have hlen : ∀ L : List (Option MV), (clr L i).length = L.length := by
        intro L; cases i <;> simp only [clr]; split <;> simp [sk_len]
      have : ∀ (L : List (Option MV)) (j : Nat) (w : MV), lk L j = some w → j < L.length := by
        intro L
        induction L with
        | nil => intro j w h; cases h
        | cons x r ih => intro j w h; cases j with
          | zero => simp
          | succ j => have := ih j w h; simp; omega
      exact hc ⟨rfl, this _ _ _ hj⟩
    · refine List.mem_cons_of_mem _ (List.mem_filter.mpr ⟨h2 j w q1, ?_⟩)
      have hne : ¬ j = i := fun z => hij z.symm
      rw [vv_cat]
      cases hg : lgq (some w) with
      | false => simp [hne]
      | true =>
        have : ¬ j + 1 = i := fun z => q2 ⟨z, hg⟩
        simp [hne, this]
theorem LV.st2 {X : WX} {nL : Nat} {L : List (Option MV)} {i : Nat} {v : MV} {lv : List (Nat × Value)} (h2 : ∀ (i : Nat) (v : MV), lk L i = some v → (i, vv X v) ∈ lv) {ls' : Array Slot} (h : lv_has ls' nL ((i, vv X v) :: lv.filter (fun q => !(q.1 == i) && (!(q.1 == i + 1) && !(q.1 + 1 == i && q.2.category == 2))))) : LV X ls' nL (st2 L i v) := by
  have h1 : ∀ (j : Nat) (w : MV), lk (Jvm.Pilot.CPosterWallLaw_law_r4334_e2e93d.st1 L i v) j = some w → j ≠ i + 1 → (j, vv X w) ∈ ((i, vv X v) :: lv.filter (fun q => !(q.1 == i) && (!(q.1 == i + 1) && !(q.1 + 1 == i && q.2.category == 2)))) := by
    intro j w hj hji
    unfold Jvm.Pilot.CPosterWallLaw_law_r4334_e2e93d.st1 at hj
    rw [lk_sk] at hj
    split at hj
    · next hc => cases hj; rw [hc.1]; exact List.mem_cons_self
    · next hc =>
      obtain ⟨q1, q2⟩ := clr_at hj
      by_cases hij : i = j
      · subst hij
        exfalso
        have : ∀ (L : List (Option MV)) (j : Nat) (w : MV), lk L j = some w → j < L.length := by
          intro L
          induction L with
          | nil => intro j w h; cases h
          | cons x r ih => intro j w h; cases j with
            | zero => simp
            | succ j => have := ih j w h; simp; omega
        exact hc ⟨rfl, this _ _ _ hj⟩
      · refine List.mem_cons_of_mem _ (List.mem_filter.mpr ⟨h2 j w q1, ?_⟩)
        have hne : ¬ j = i := fun z => hij z.symm
        rw [vv_cat]
        cases hg : lgq (some w) with
        | false => simp [hne, hji]
        | true =>
          have : ¬ j + 1 = i := fun z => q2 ⟨z, hg⟩
          simp [hne, this, hji]
  refine ⟨_, h, fun j w hj => ?_⟩
  unfold Jvm.Pilot.CPosterWallLaw_law_r4334_e2e93d.st2 at hj
  rw [lk_sk] at hj
  split at hj
  · cases hj
  · next hc =>
    refine h1 j w hj fun z => ?_
    subst z
    have : ∀ (L : List (Option MV)) (j : Nat) (w : MV), lk L j = some w → j < L.length := by
      intro L
      induction L with
      | nil => intro j w h; cases h
      | cons x r ih => intro j w h; cases j with
        | zero => simp
        | succ j => have := ih j w h; simp; omega
    exact hc ⟨rfl, this _ _ _ hj⟩
/-- fewer known locals -/
def leL : List (Option MV) → List (Option MV) → Prop
  | [], _ => True
  | none :: r, L => leL r L.tail
  | some v :: r, L => L.head? = some (some v) ∧ leL r L.tail
theorem leL_at : ∀ (A B : List (Option MV)) (i : Nat) (v : MV), leL A B → lk A i = some v → lk B i = some v := by
  intro A
  induction A with
  | nil => intro B i v _ h; cases h
  | cons x r ih =>
    intro B i v hle h
    cases B with
    | nil =>
      cases i with
      | zero =>
        cases x with
        | none => cases h
        | some w => exact absurd hle.1 (by simp)
      | succ i =>
        have : leL r [] := by cases x with
          | none => exact hle
          | some w => exact hle.2
        have := ih [] i v this h
        cases this
    | cons y t =>
      cases i with
      | zero =>
        cases x with
        | none => cases h
        | some w =>
          have := hle.1
          simp at this
          subst this
          exact h
      | succ i =>
        have h1 : leL r t := by cases x with
          | none => exact hle
          | some w => exact hle.2
        exact ih t i v h1 h
theorem LV.le {X : WX} {ls : Array Slot} {nL : Nat} {A B : List (Option MV)} (h : LV X ls nL B) (hle : leL A B) : LV X ls nL A := by
  obtain ⟨lv, h1, h2⟩ := h
  exact ⟨lv, h1, fun i v hi => h2 i v (leL_at A B i v hle hi)⟩
-- what the operand stack must hold
def pI (st : List MV) (K : Int32 → List MV → Prop) : Prop := match st with
  | .inl x :: t => K x t
  | _ => False
def pL (st : List MV) (K : Int64 → List MV → Prop) : Prop := match st with
  | .inr (.inl x) :: t => K x t
  | _ => False
def pR (st : List MV) (K : Nat → Nat → List MV → Prop) : Prop := match st with
  | .inr (.inr (c, i)) :: t => K c i t
  | _ => False
def pA (st : List MV) (K : MV → List MV → Prop) : Prop := match st with
  | .inl x :: t => K (.inl x) t
  | .inr (.inr q) :: t => K (.inr (.inr q)) t
  | _ => False
def oI (o : Option MV) (K : Int32 → Prop) : Prop := match o with
  | some (.inl x) => K x
  | _ => False
def oL (o : Option MV) (K : Int64 → Prop) : Prop := match o with
  | some (.inr (.inl x)) => K x
  | _ => False
def oR (o : Option MV) (K : Nat → Nat → Prop) : Prop := match o with
  | some (.inr (.inr (c, i))) => K c i
  | _ => False
theorem pI_inv {st : List MV} {K : Int32 → List MV → Prop} (h : pI st K) : ∃ x t, st = .inl x :: t ∧ K x t := by
  rcases st with _ | ⟨x | x | x, t⟩ <;> first | exact h.elim | exact ⟨_, _, rfl, h⟩
theorem pL_inv {st : List MV} {K : Int64 → List MV → Prop} (h : pL st K) : ∃ x t, st = .inr (.inl x) :: t ∧ K x t := by
  rcases st with _ | ⟨x | x | x, t⟩ <;> first | exact h.elim | exact ⟨_, _, rfl, h⟩
theorem pR_inv {st : List MV} {K : Nat → Nat → List MV → Prop} (h : pR st K) : ∃ c i t, st = .inr (.inr (c, i)) :: t ∧ K c i t := by
  rcases st with _ | ⟨x | x | ⟨c, i⟩, t⟩ <;> first | exact h.elim | exact ⟨_, _, _, rfl, h⟩
theorem pA_inv {st : List MV} {K : MV → List MV → Prop} (h : pA st K) : ∃ v t, st = v :: t ∧ lgq (some v) = false ∧ K v t := by
  rcases st with _ | ⟨x | x | x, t⟩ <;> first | exact h.elim | exact ⟨_, _, rfl, rfl, h⟩
theorem oI_inv {o : Option MV} {K : Int32 → Prop} (h : oI o K) : ∃ x, o = some (.inl x) ∧ K x := by
  rcases o with _ | x | x | x <;> first | exact h.elim | exact ⟨_, rfl, h⟩
theorem oL_inv {o : Option MV} {K : Int64 → Prop} (h : oL o K) : ∃ x, o = some (.inr (.inl x)) ∧ K x := by
  rcases o with _ | x | x | x <;> first | exact h.elim | exact ⟨_, rfl, h⟩
theorem oR_inv {o : Option MV} {K : Nat → Nat → Prop} (h : oR o K) : ∃ c i, o = some (.inr (.inr (c, i))) ∧ K c i := by
  rcases o with _ | x | x | ⟨c, i⟩ <;> first | exact h.elim | exact ⟨_, _, rfl, h⟩
def cats : List MV → Nat
  | [] => 0
  | v :: r => (match v with | .inr (.inl _) => 2 | _ => 1) + cats r
theorem cats_eq (X : WX) (t : List MV) : ((t.map (vv X)).map fun v => v.category).sum = cats t := by
  induction t with
  | nil => rfl
  | cons v r ih =>
    simp only [List.map_cons, List.sum_cons, ih, cats]
    rcases v with x | x | x <;> rfl
def pops : Nat → List MV → List MV → (List MV → List MV → Prop) → Prop
  | 0, acc, st, K => K acc st
  | n + 1, acc, v :: st, K => pops n (v :: acc) st K
  | _ + 1, _, [], _ => False
theorem pops_inv : ∀ (n : Nat) (acc st : List MV) (K : List MV → List MV → Prop), pops n acc st K → ∃ as t, as.length = n ∧ st = as.reverse ++ t ∧ K (as ++ acc) t := by
  intro n
  induction n with
  | zero => intro acc st K h; exact ⟨[], st, rfl, rfl, h⟩
  | succ n ih =>
    intro acc st K h
    cases st with
    | nil => exact h.elim
    | cons v st =>
      obtain ⟨as, t, h1, h2, h3⟩ := ih (v :: acc) st K h
      exact ⟨as ++ [v], t, by simp [h1], by simp [h2], by simpa using h3⟩
def pushR (r : Option MV) (t : List MV) : List MV := match r with
  | none => t
  | some v => v :: t
def irm (x y : Int32) : Int32 := x - x / y * y
def lrm (x y : Int64) : Int64 := x - x / y * y
def ush (x y : Int32) : Int32 := (x.toUInt32 >>> (y.toUInt32 &&& Int32.toUInt32 31)).toInt32
def alen (c i : Nat) : Option Nat := if ia c = true then some (ln c i) else match ra c with
  | some q => some q.2.2.1
  | none => if c = 30 then some 2 else none
def isZ (a k : Nat) : Bool := (a == 3 && k == 1) || (a == 7 && k == 11)
def fm (u : Mem) (a i k : Nat) : MV := match fk a k with
  | none => .inl (rd u a i k)
  | some (c', none) => .inr (.inr (c', i))
  | some (c', some z) => .inr (.inr (c', z))
def cpy (u : Mem) (c i c' i' sp dp n : Nat) : Mem := (fun a b => if a = c' ∧ b = i' then va_cpy (u.1 c i) (u.1 c' i') sp dp n else u.1 a b, u.2)
def sw : List Nat → Nat → Int32 → (Nat → Prop) → Nat → Prop
  | [], _, _, K, D => K D
  | b :: bs, j, x, K, D => (x = nI j → K b) ∧ (¬ x = nI j → sw bs (j + 1) x K D)
/-- where a method may end, and with what -/
def retAt (Y : Mth) (r : Option MV) (pc : Nat) : Prop := match r with
  | none => decode Y.1.2.1 pc = .ok (.return_, 1) ∧ Y.1.2.2.2 = none
  | some (.inl v) => decode Y.1.2.1 pc = .ok (.ireturn, 1) ∧ (Y.1.2.2.2 = some .int ∨ (Y.1.2.2.2 = some .boolean ∧ (v = nI 0 ∨ v = nI 1)))
  | some (.inr (.inl _)) => decode Y.1.2.1 pc = .ok (.lreturn, 1) ∧ Y.1.2.2.2 = some .long
  | _ => False
def Ctx (d : Nat) (X : WX) (Y : Mth) (Q : Option MV → Mem → Prop) (p : Program) (l : Launch) (e : Env) (R : Room) (s : State) (m : MethodId) (args : Array Value) (below : List Frame) (meth : Method) (c : Code) (cells slots : Nat) (G : State → Prop) : Prop :=
  p.tables.exec = Jvm.exec ∧ c.code = Y.1.2.1 ∧ c.maxLocals = Y.1.2.2.1 ∧ s.vm.findClass Y.2.1 = some m.cls ∧ (∀ w ∈ tg, w.before args s = true) ∧ va_K X.D wCl (tyx X) s ∧ (InjX X ∧ NW s) ∧ (d ≤ R.frames ∧ 40 * d ≤ R.locals ∧ cells ≤ R.cells ∧ slots ≤ R.slots) ∧
  ∀ (r : Option MV) (u : Mem) (H : Heap) (locs : List Loc) (ls : Array Slot) (pc : Nat), Q r u → va_P X.D wCl (wsx X u) H → va_S (AX X) s.heap H locs → retAt Y r pc → W p l e R s m args below meth c H locs cells slots G (F0 m pc ls (r.toList.map (vv X)))
def Run (d : Nat) (Y : Mth) (pc : Nat) (L : List (Option MV)) (st : List MV) (u : Mem) (Q : Option MV → Mem → Prop) : Prop :=
  ∀ (X : WX) (p : Program) (l : Launch) (e : Env) (R : Room) (s : State) (m : MethodId) (args : Array Value) (below : List Frame) (meth : Method) (c : Code) (cells slots : Nat) (G : State → Prop) (H : Heap) (locs : List Loc) (ls : Array Slot), Ctx d X Y Q p l e R s m args below meth c cells slots G → va_P X.D wCl (wsx X u) H → va_S (AX X) s.heap H locs → LV X ls Y.1.2.2.1 L → W p l e R s m args below meth c H locs cells slots G (F0 m pc ls (st.map (vv X)))
def RunB (d : Nat) (Y : Mth) (b : Nat) (L : List (Option MV)) (st : List MV) (u : Mem) (Q : Option MV → Mem → Prop) : Prop := Run d Y (pcOf Y.2.2 b) L st u Q
def okPc (X : WX) (as : List MV) (u : Mem) : Array Value → State → Prop := fun v U => v = (as.map (vv X)).toArray ∧ va_P X.D wCl (wsx X u) U.heap ∧ va_K X.D wCl (tyx X) U ∧ InjX X ∧ NW U
def okQc (X : WX) (Q : Option MV → Mem → Prop) : Array Value → State → Outcome → State → Prop := fun _ st oc t => (∃ (r : Option MV) (u : Mem), oc = .returned (r.map (vv X)) ∧ Q r u ∧ va_P X.D wCl (wsx X u) t.heap) ∧ va_F (AX X) st t
/-- a method, called with these arguments over this memory, comes back with Q; d frames are there for it -/
def OKm (d : Nat) (g : Sg) (as : List MV) (u : Mem) (Q : Option MV → Mem → Prop) : Prop :=
  ∀ (l : Launch) (X : WX), Met l g.1 (wsG g) (rmD d) (okPc X as u) (okQc X Q) 0 0 (AX X)
def go (d : Nat) (Y : Mth) (Q : Option MV → Mem → Prop) : List En → Nat → List (Option MV) → List MV → Mem → Prop
  | [], b, L, st, u => RunB (d + 1) Y (b + 1) L st u Q
  | (ins, _, a, k, xs, g) :: r, b, L, st, u => match ins with
    | .iload _ => oI (lk L a) fun x => go d Y Q r b L (.inl x :: st) u
    | .iload_n _ => oI (lk L a) fun x => go d Y Q r b L (.inl x :: st) u
    | .lload _ => oL (lk L a) fun x => go d Y Q r b L (.inr (.inl x) :: st) u
    | .lload_n _ => oL (lk L a) fun x => go d Y Q r b L (.inr (.inl x) :: st) u
    | .aload _ => oR (lk L a) fun c i => go d Y Q r b L (.inr (.inr (c, i)) :: st) u
    | .aload_n _ => oR (lk L a) fun c i => go d Y Q r b L (.inr (.inr (c, i)) :: st) u
    | .istore _ => pI st fun x t => go d Y Q r b (st1 L a (.inl x)) t u
    | .istore_n _ => pI st fun x t => go d Y Q r b (st1 L a (.inl x)) t u
    | .lstore _ => pL st fun x t => go d Y Q r b (st2 L a (.inr (.inl x))) t u
    | .lstore_n _ => pL st fun x t => go d Y Q r b (st2 L a (.inr (.inl x))) t u
    | .astore _ => pR st fun c i t => go d Y Q r b (st1 L a (.inr (.inr (c, i)))) t u
    | .astore_n _ => pR st fun c i t => go d Y Q r b (st1 L a (.inr (.inr (c, i)))) t u
    | .iconst _ => go d Y Q r b L (.inl (kI a k) :: st) u
    | .bipush _ => go d Y Q r b L (.inl (kI a k) :: st) u
    | .sipush _ => go d Y Q r b L (.inl (kI a k) :: st) u
    | .ldc _ => go d Y Q r b L (.inl (kI a k) :: st) u
    | .ldc_w _ => go d Y Q r b L (.inl (kI a k) :: st) u
    | .lconst _ => go d Y Q r b L (.inr (.inl (kL a k)) :: st) u
    | .ldc2_w _ => go d Y Q r b L (.inr (.inl (kL a k)) :: st) u
    | .iadd => pI st fun y t => pI t fun x t => go d Y Q r b L (.inl (x + y) :: t) u
    | .isub => pI st fun y t => pI t fun x t => go d Y Q r b L (.inl (x - y) :: t) u
    | .imul => pI st fun y t => pI t fun x t => go d Y Q r b L (.inl (x * y) :: t) u
    | .idiv => pI st fun y t => pI t fun x t => ¬ y = 0 ∧ go d Y Q r b L (.inl (x / y) :: t) u
    | .irem => pI st fun y t => pI t fun x t => ¬ y = 0 ∧ go d Y Q r b L (.inl (irm x y) :: t) u
    | .iand => pI st fun y t => pI t fun x t => go d Y Q r b L (.inl (x &&& y) :: t) u
    | .ior => pI st fun y t => pI t fun x t => go d Y Q r b L (.inl (x ||| y) :: t) u
    | .ishl => pI st fun y t => pI t fun x t => go d Y Q r b L (.inl (x <<< (y &&& 31)) :: t) u
    | .ishr => pI st fun y t => pI t fun x t => go d Y Q r b L (.inl (x >>> (y &&& 31)) :: t) u
    | .iushr => pI st fun y t => pI t fun x t => go d Y Q r b L (.inl (ush x y) :: t) u
    | .i2l => pI st fun x t => go d Y Q r b L (.inr (.inl x.toInt64) :: t) u
    | .i2b => pI st fun x t => go d Y Q r b L (.inl x.toInt8.toInt32 :: t) u
    | .i2s => pI st fun x t => go d Y Q r b L (.inl x.toInt16.toInt32 :: t) u
    | .ladd => pL st fun y t => pL t fun x t => go d Y Q r b L (.inr (.inl (x + y)) :: t) u
    | .lsub => pL st fun y t => pL t fun x t => go d Y Q r b L (.inr (.inl (x - y)) :: t) u
    | .lmul => pL st fun y t => pL t fun x t => go d Y Q r b L (.inr (.inl (x * y)) :: t) u
    | .ldiv => pL st fun y t => pL t fun x t => ¬ y = 0 ∧ go d Y Q r b L (.inr (.inl (x / y)) :: t) u
    | .lrem => pL st fun y t => pL t fun x t => ¬ y = 0 ∧ go d Y Q r b L (.inr (.inl (lrm x y)) :: t) u
    | .lshl => pI st fun y t => pL t fun x t => go d Y Q r b L (.inr (.inl (x <<< (y.toInt64 &&& 63))) :: t) u
    | .lcmp => pL st fun y t => pL t fun x t => go d Y Q r b L (.inl (lg_cmp x y) :: t) u
    | .ifCond .eq _ => pI st fun x t => (x = 0 → RunB (d + 1) Y a L t u Q) ∧ (¬ x = 0 → go d Y Q r b L t u)
    | .ifCond .ne _ => pI st fun x t => (¬ x = 0 → RunB (d + 1) Y a L t u Q) ∧ (x = 0 → go d Y Q r b L t u)
    | .ifCond .lt _ => pI st fun x t => (x < 0 → RunB (d + 1) Y a L t u Q) ∧ (¬ x < 0 → go d Y Q r b L t u)
    | .ifCond .ge _ => pI st fun x t => (0 ≤ x → RunB (d + 1) Y a L t u Q) ∧ (¬ 0 ≤ x → go d Y Q r b L t u)
    | .ifCond .gt _ => pI st fun x t => (0 < x → RunB (d + 1) Y a L t u Q) ∧ (¬ 0 < x → go d Y Q r b L t u)
    | .ifCond .le _ => pI st fun x t => (x ≤ 0 → RunB (d + 1) Y a L t u Q) ∧ (¬ x ≤ 0 → go d Y Q r b L t u)
    | .if_icmp .eq _ => pI st fun y t => pI t fun x t => (x = y → RunB (d + 1) Y a L t u Q) ∧ (¬ x = y → go d Y Q r b L t u)
    | .if_icmp .ne _ => pI st fun y t => pI t fun x t => (¬ x = y → RunB (d + 1) Y a L t u Q) ∧ (x = y → go d Y Q r b L t u)
    | .if_icmp .lt _ => pI st fun y t => pI t fun x t => (x < y → RunB (d + 1) Y a L t u Q) ∧ (¬ x < y → go d Y Q r b L t u)
    | .if_icmp .ge _ => pI st fun y t => pI t fun x t => (y ≤ x → RunB (d + 1) Y a L t u Q) ∧ (¬ y ≤ x → go d Y Q r b L t u)
    | .if_icmp .gt _ => pI st fun y t => pI t fun x t => (y < x → RunB (d + 1) Y a L t u Q) ∧ (¬ y < x → go d Y Q r b L t u)
    | .if_icmp .le _ => pI st fun y t => pI t fun x t => (x ≤ y → RunB (d + 1) Y a L t u Q) ∧ (¬ x ≤ y → go d Y Q r b L t u)
    | .goto _ => RunB (d + 1) Y a L st u Q
    | .iinc _ _ => oI (lk L a) fun x => go d Y Q r b (st1 L a (.inl (x + kI k (xs.headD 0)))) st u
    | .dup => pA st fun v t => go d Y Q r b L (v :: v :: t) u
    | .dup2 => pA st fun v t => pA t fun w t => go d Y Q r b L (v :: w :: v :: w :: t) u
    | .pop => pA st fun _ t => go d Y Q r b L t u
    | .getfield _ => pR st fun c i t => c = a ∧ i < NI a ∧ go d Y Q r b L (fm u a i k :: t) u
    | .putfield _ => pI st fun v t => pR t fun c i t => c = a ∧ i < NI a ∧ fk a k = none ∧ (isZ a k = true → v = nI 0 ∨ v = nI 1) ∧ go d Y Q r b L t (wr u a i k v)
    | .iaload => pI st fun x t => pR t fun c i t => ia c = true ∧ i < NI c ∧ vp_in x (ln c i) ∧ go d Y Q r b L (.inl (rd u c i x.toNatClampNeg) :: t) u
    | .iastore => pI st fun v t => pI t fun x t => pR t fun c i t => ia c = true ∧ i < NI c ∧ vp_in x (ln c i) ∧ go d Y Q r b L t (wr u c i x.toNatClampNeg v)
    | .laload => pI st fun x t => pR t fun c i t => c = 30 ∧ i < NI c ∧ vp_in x 2 ∧ go d Y Q r b L (.inr (.inl (rdL u x.toNatClampNeg)) :: t) u
    | .lastore => pL st fun v t => pI t fun x t => pR t fun c i t => c = 30 ∧ i < NI c ∧ vp_in x 2 ∧ go d Y Q r b L t (wrL u x.toNatClampNeg v)
    | .aaload => pI st fun x t => pR t fun c i t => i < NI c ∧ (match ra c with
        | some q => vp_in x q.2.2.1 ∧ go d Y Q r b L (.inr (.inr (q.1, q.2.1 + x.toNatClampNeg)) :: t) u
        | none => False)
    | .arraylength => pR st fun c i t => i < NI c ∧ (match alen c i with
        | some n => go d Y Q r b L (.inl (nI n) :: t) u
        | none => False)
    | .tableswitch _ _ _ _ => pI st fun x t => sw xs 0 x (fun b' => RunB (d + 1) Y b' L t u Q) a
    | .invokevirtual _ => pops a [] st fun as t => pR t fun c i t => c = k ∧ i < NI c ∧ cats t ≤ 8 ∧ OKm d g (.inr (.inr (c, i)) :: as) u fun v u' => go d Y Q r b L (pushR v t) u'
    | .invokestatic _ => if k = 3 then
          pI st fun n t => pI t fun dp t => pR t fun c' i' t => pI t fun sp t => pR t fun c i t => ia c = true ∧ i < NI c ∧ ia c' = true ∧ i' < NI c' ∧ cats t ≤ 8 ∧ ¬ sp < 0 ∧ ¬ dp < 0 ∧ ¬ n < 0 ∧ sp.toNatClampNeg + n.toNatClampNeg ≤ ln c i ∧ dp.toNatClampNeg + n.toNatClampNeg ≤ ln c' i' ∧ go d Y Q r b L t (cpy u c i c' i' sp.toNatClampNeg dp.toNatClampNeg n.toNatClampNeg)
        else if k = 4 then pI st fun y t => pI t fun x t => cats t ≤ 8 ∧ go d Y Q r b L (.inl (if x < y then y else x) :: t) u
        else if k = 5 then pI st fun y t => pI t fun x t => cats t ≤ 8 ∧ go d Y Q r b L (.inl (if y < x then y else x) :: t) u
        else if k = 6 then pL st fun y t => pL t fun x t => cats t ≤ 8 ∧ go d Y Q r b L (.inr (.inl (if y < x then x else y)) :: t) u
        else pops a [] st fun as t => cats t ≤ 8 ∧ OKm d g as u fun v u' => go d Y Q r b L (pushR v t) u'
    | .ireturn => pI st fun v t => t = [] ∧ (k = 1 → v = nI 0 ∨ v = nI 1) ∧ Q (some (.inl v)) u
    | .lreturn => pL st fun v t => t = [] ∧ Q (some (.inr (.inl v))) u
    | .return_ => st = [] ∧ Q none u
    | _ => False
