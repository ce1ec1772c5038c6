-- constructors: a small machine that makes cells; it is run by the kernel, and is sound over the kit's rows
/-- a cell while it is made: fields (none: null); ints (length, writes); longs; references (which class of arrays, length, writes) -/
abbrev BC : Type := List (Option MV) ⊕ ((Nat × List (Nat × Int32)) ⊕ (Nat ⊕ (Nat × Nat × List (Nat × Nat × Nat))))
abbrev BH : Type := List ((Nat × Nat) × BC)
def lkI : List (Nat × Int32) → Nat → Int32
  | [], _ => 0
  | (k, v) :: r, j => if j = k then v else lkI r j
def lkR : List (Nat × Nat × Nat) → Nat → Option (Nat × Nat)
  | [], _ => none
  | (k, v) :: r, j => if j = k then some v else lkR r j
def XA (X : WX) (ad : Nat → Nat → Nat) : WX := (X.1, X.2.1, X.2.2.1, ad)
def fvB (X : WX) (o : Option MV) : Value := match o with
  | none => .null
  | some v => vv X v
def cellB (X : WX) (q : Nat × Nat) (c : BC) : va_E := match c with
  | .inl fs => .inr (q.1, fs.map (fvB X))
  | .inr (.inl (n, w)) => .inl (X.kA 0, n, .inl (lkI w))
  | .inr (.inr (.inl n)) => .inl (X.kA 1, n, .inr (.inl (fun _ => 0)))
  | .inr (.inr (.inr (k, n, w))) => .inl (X.kA k, n, .inr (.inr (.inr (.inr (fun j => (lkR w j).map (fun q => X.ad q.1 q.2))))))
def wsB (X : WX) (h : BH) : va_W := h.map (fun e => (X.ad e.1.1 e.1.2, cellB X e.1 e.2))
def bix : BH → (Nat × Nat) → Option (Nat × BC)
  | [], _ => none
  | e :: r, q => if e.1 = q then some (0, e.2) else match bix r q with
    | some x => some (x.1 + 1, x.2)
    | none => none
theorem bix_at : ∀ (h : BH) (q : Nat × Nat) (j : Nat) (c : BC), bix h q = some (j, c) → h[j]? = some (q, c) := by
  intro h
  induction h with
  | nil => intro q j c h; cases h
  | cons e r ih =>
    intro q j c h
    simp only [bix] at h
    split at h
    · next he => cases h; simp [← he]
    · split at h
      · next x hx => cases h; simpa using ih q x.1 x.2 hx
      · cases h
def nrV (q : Nat × Nat) (v : MV) : Bool := match v with
  | .inr (.inr p) => decide (p ≠ q)
  | _ => true
def nrO (q : Nat × Nat) (o : Option MV) : Bool := match o with
  | none => true
  | some v => nrV q v
def nrC (q : Nat × Nat) (c : BC) : Bool := match c with
  | .inl fs => fs.all (nrO q)
  | .inr (.inr (.inr (_, _, w))) => w.all (fun e => decide (e.2 ≠ q))
  | _ => true
def fresh (q : Nat × Nat) (L : List (Option MV)) (st : List MV) (h : BH) : Bool := L.all (nrO q) && st.all (nrV q) && h.all (fun e => decide (e.1 ≠ q) && nrC q e.2)
def adU (ad : Nat → Nat → Nat) (q : Nat × Nat) (z : Nat) : Nat → Nat → Nat := fun a b => if (a, b) = q then z else ad a b
theorem adU_q (ad : Nat → Nat → Nat) (q : Nat × Nat) (z : Nat) : adU ad q z q.1 q.2 = z := if_pos rfl
theorem adU_n (ad : Nat → Nat → Nat) {q p : Nat × Nat} (z : Nat) (h : p ≠ q) : adU ad q z p.1 p.2 = ad p.1 p.2 := if_neg h
theorem vvU (X : WX) (ad : Nat → Nat → Nat) (q : Nat × Nat) (z : Nat) {v : MV} (h : nrV q v = true) : vv (XA X (adU ad q z)) v = vv (XA X ad) v := by
  rcases v with x | x | p
  · rfl
  · rfl
  · show Value.ref _ = Value.ref _
    exact congrArg Value.ref (adU_n ad z (of_decide_eq_true h))
theorem fvU (X : WX) (ad : Nat → Nat → Nat) (q : Nat × Nat) (z : Nat) {o : Option MV} (h : nrO q o = true) : fvB (XA X (adU ad q z)) o = fvB (XA X ad) o := by
  cases o with
  | none => rfl
  | some v => exact vvU X ad q z h
theorem lkR_mem : ∀ (w : List (Nat × Nat × Nat)) (j : Nat) (p : Nat × Nat), lkR w j = some p → ∃ k, (k, p) ∈ w := by
  intro w
  induction w with
  | nil => intro j p h; cases h
  | cons e r ih =>
    intro j p h
    obtain ⟨k, v⟩ := e
    simp only [lkR] at h
    split at h
    · cases h; exact ⟨k, List.mem_cons_self⟩
    · obtain ⟨k', hk⟩ := ih j p h; exact ⟨k', List.mem_cons_of_mem _ hk⟩
theorem cellU (X : WX) (ad : Nat → Nat → Nat) (q : Nat × Nat) (z : Nat) (p : Nat × Nat) {c : BC} (h : nrC q c = true) : cellB (XA X (adU ad q z)) p c = cellB (XA X ad) p c := by
  rcases c with fs | ⟨n, w⟩ | n | ⟨k, n, w⟩
  · simp only [cellB]
    refine congrArg (fun x => (Sum.inr (p.1, x) : va_E)) (List.map_congr_left fun o ho => fvU X ad q z (List.all_eq_true.mp h o ho))
  · rfl
  · rfl
  · simp only [cellB]
    have : (fun j => (lkR w j).map (fun q' => (XA X (adU ad q z)).ad q'.1 q'.2)) = (fun j => (lkR w j).map (fun q' => (XA X ad).ad q'.1 q'.2)) := by
      funext j
      cases hj : lkR w j with
      | none => rfl
      | some p' =>
        obtain ⟨k', hk⟩ := lkR_mem w j p' hj
        have := List.all_eq_true.mp h _ hk
        exact congrArg some (adU_n ad z (of_decide_eq_true this))
    rw [this]
    rfl
theorem wsU (X : WX) (ad : Nat → Nat → Nat) (q : Nat × Nat) (z : Nat) {h : BH} (hh : h.all (fun e => decide (e.1 ≠ q) && nrC q e.2) = true) : wsB (XA X (adU ad q z)) h = wsB (XA X ad) h := by
  refine List.map_congr_left fun e he => ?_
  have := List.all_eq_true.mp hh e he
  simp only [Bool.and_eq_true] at this
  rw [cellU X ad q z e.1 this.2]
  exact congrArg (fun x => (x, cellB (XA X ad) e.1 e.2)) (adU_n ad z (of_decide_eq_true this.1))
theorem lk_mem : ∀ (L : List (Option MV)) (i : Nat) (v : MV), lk L i = some v → some v ∈ L := by
  intro L
  induction L with
  | nil => intro i v h; cases h
  | cons x r ih =>
    intro i v h
    cases i with
    | zero => rw [show x = some v from h]; exact List.mem_cons_self
    | succ i => exact List.mem_cons_of_mem _ (ih i v h)
theorem LV.conv {X X' : WX} {ls : Array Slot} {nL : Nat} {L : List (Option MV)} (h : LV X ls nL L) (hv : ∀ v, some v ∈ L → vv X' v = vv X v) : LV X' ls nL L := by
  obtain ⟨lv, h1, h2⟩ := h
  exact ⟨lv, h1, fun i v hi => by rw [hv v (lk_mem L i v hi)]; exact h2 i v hi⟩
def cntB (h : BH) (c : Nat) : Nat := (h.filter (fun e => e.1.1 == c)).length
def inKV (h : BH) (v : MV) : Bool := match v with
  | .inr (.inr p) => h.any (fun e => decide (e.1 = p))
  | _ => true
def inKO (h : BH) (o : Option MV) : Bool := match o with
  | none => true
  | some v => inKV h v
def keysub (h h' : BH) : Bool := h.all (fun e => h'.any (fun e' => decide (e'.1 = e.1)))
def Agr (ad ad' : Nat → Nat → Nat) (h : BH) : Prop := ∀ e ∈ h, ad' e.1.1 e.1.2 = ad e.1.1 e.1.2
theorem Agr.vv {X : WX} {ad ad' : Nat → Nat → Nat} {h : BH} (ha : Agr ad ad' h) {v : MV} (hv : inKV h v = true) : vv (XA X ad') v = vv (XA X ad) v := by
  rcases v with x | x | p
  · rfl
  · rfl
  · obtain ⟨e, he, hp⟩ := List.any_eq_true.mp hv
    have hp := of_decide_eq_true hp
    show Value.ref _ = Value.ref _
    have := ha e he
    rw [hp] at this
    exact congrArg Value.ref this
theorem Agr.tr {ad ad' ad2 : Nat → Nat → Nat} {h h1 : BH} (a1 : Agr ad ad' h) (a2 : Agr ad' ad2 h1) (hk : keysub h h1 = true) : Agr ad ad2 h := by
  intro e he
  obtain ⟨e', he', hp⟩ := List.any_eq_true.mp (List.all_eq_true.mp hk e he)
  have hp := of_decide_eq_true hp
  have := a2 e' he'
  rw [hp] at this
  rw [this]; exact a1 e he
theorem keysub_app (h : BH) (x : BH) : keysub h (h ++ x) = true := List.all_eq_true.mpr fun e he => List.any_eq_true.mpr ⟨e, List.mem_append_left _ he, decide_eq_true rfl⟩
theorem keysub_set {h : BH} {j : Nat} {q : Nat × Nat} {c c' : BC} (hj : h[j]? = some (q, c)) : keysub h (h.set j (q, c')) = true := by
  refine List.all_eq_true.mpr fun e he => List.any_eq_true.mpr ?_
  obtain ⟨i, hi⟩ := List.getElem?_of_mem he
  by_cases e1 : j = i
  · subst e1
    rw [hj] at hi
    cases hi
    have hlt := (List.getElem?_eq_some_iff.mp hj).1
    exact ⟨(q, c'), List.mem_of_getElem? (i := j) (by rw [List.getElem?_set, if_pos rfl, if_pos hlt]), decide_eq_true rfl⟩
  · exact ⟨e, List.mem_of_getElem? (i := i) (by rw [List.getElem?_set, if_neg e1]; exact hi), decide_eq_true rfl⟩
theorem Agr.U {ad : Nat → Nat → Nat} {q : Nat × Nat} {z : Nat} {h : BH} (hh : h.all (fun e => decide (e.1 ≠ q) && nrC q e.2) = true) : Agr ad (adU ad q z) h := by
  intro e he
  have := List.all_eq_true.mp hh e he
  simp only [Bool.and_eq_true] at this
  exact adU_n ad z (of_decide_eq_true this.1)
-- what a field may hold
def isRf (t : FieldType) : Bool := match t with
  | .object _ => true
  | .array _ => true
  | _ => false
def okV (a k : Nat) (v : MV) : Bool := match wCl[a]? with
  | none => false
  | some r => match v with
    | .inl x => decide (tyf r.2.1 k = .int) || (decide (tyf r.2.1 k = .boolean) && (decide (x = nI 0) || decide (x = nI 1)))
    | .inr (.inr _) => isRf (tyf r.2.1 k)
    | _ => false
def dfl (a : Nat) : List (Option MV) := match wCl[a]? with
  | some r => (List.range r.2.2).map (fun j => if isRf (tyf r.2.1 j) = true then none else some (.inl 0))
  | none => []
/-- classes of arrays of references: whose, and its number -/
def ek (k : Nat) : Option (String × Nat) := match k with
  | 2 => some (RX, 6)
  | 3 => some (RP, 1)
  | 4 => some (RR, 3)
  | 5 => some (RB, 0)
  | _ => none
def popB : Nat → List MV → Option (List MV × List MV)
  | 0, st => some ([], st)
  | n + 1, v :: st => match popB n st with
    | some q => some (q.1 ++ [v], q.2)
    | none => none
  | _ + 1, [] => none
abbrev INI : Type := Nat → Option (Mth × Nat × Nat)
def ev (ini : INI) : Nat → Nat → Nat → Nat → Mth → List En → Nat → List (Option MV) → List MV → BH → Nat → Nat → Option BH
  | 0, _, _, _, _, _, _, _, _, _, _, _ => none
  | n + 1, d, M, S, Y, [], b, L, st, h, cs, sl => if b + 2 < Y.2.2.length then ev ini n d M S Y (esOf Y.2.2 (b + 1)) (b + 1) L st h cs sl else none
  | n + 1, d, M, S, Y, (ins, _, a, k, xs, _) :: r, b, L, st, h, cs, sl => match ins with
    | .aload_n _ => match lk L a with
      | some (.inr (.inr q)) => ev ini n d M S Y r b L (.inr (.inr q) :: st) h cs sl
      | _ => none
    | .iload_n _ => match lk L a with
      | some (.inl x) => ev ini n d M S Y r b L (.inl x :: st) h cs sl
      | _ => none
    | .istore_n _ => match st with
      | .inl x :: t => ev ini n d M S Y r b (st1 L a (.inl x)) t h cs sl
      | _ => none
    | .iinc _ _ => match lk L a with
      | some (.inl x) => ev ini n d M S Y r b (st1 L a (.inl (x + kI k (xs.headD 0)))) st h cs sl
      | _ => none
    | .iconst _ => ev ini n d M S Y r b L (.inl (kI a k) :: st) h cs sl
    | .bipush _ => ev ini n d M S Y r b L (.inl (kI a k) :: st) h cs sl
    | .sipush _ => ev ini n d M S Y r b L (.inl (kI a k) :: st) h cs sl
    | .dup => match st with
      | .inr (.inr q) :: t => ev ini n d M S Y r b L (.inr (.inr q) :: .inr (.inr q) :: t) h cs sl
      | _ => none
    | .goto _ => if a + 1 < Y.2.2.length then ev ini n d M S Y (esOf Y.2.2 a) a L st h cs sl else none
    | .if_icmp .ge _ => match st with
      | .inl y :: .inl x :: t => if y ≤ x then (if a + 1 < Y.2.2.length then ev ini n d M S Y (esOf Y.2.2 a) a L t h cs sl else none) else ev ini n d M S Y r b L t h cs sl
      | _ => none
    | .arraylength => match st with
      | .inr (.inr q) :: t => match bix h q with
        | some (_, .inr (.inl (z, _))) => ev ini n d M S Y r b L (.inl (nI z) :: t) h cs sl
        | some (_, .inr (.inr (.inr (i, z, _)))) => if (ek i).isSome = true then ev ini n d M S Y r b L (.inl (nI z) :: t) h cs sl else none
        | _ => none
      | _ => none
    | .getfield _ => match st with
      | .inr (.inr q) :: t => if q.1 = a then (match bix h q with
        | some (_, .inl fs) => match fs[k]? with
          | some (some v) => ev ini n d M S Y r b L (v :: t) h cs sl
          | _ => none
        | _ => none) else none
      | _ => none
    | .putfield _ => match st with
      | v :: .inr (.inr q) :: t => if q.1 = a ∧ okV a k v = true then (match bix h q with
        | some (j, .inl fs) => if k < fs.length then ev ini n d M S Y r b L t (h.set j (q, .inl (fs.set k (some v)))) cs sl else none
        | _ => none) else none
      | _ => none
    | .iastore => match st with
      | .inl v :: .inl x :: .inr (.inr q) :: t => match bix h q with
        | some (j, .inr (.inl (z, w))) => if ¬ x < 0 ∧ x.toNatClampNeg < z then ev ini n d M S Y r b L t (h.set j (q, .inr (.inl (z, (x.toNatClampNeg, v) :: w)))) cs sl else none
        | _ => none
      | _ => none
    | .aastore => match st with
      | .inr (.inr v) :: .inl x :: .inr (.inr q) :: t => match bix h q, bix h v with
        | some (j, .inr (.inr (.inr (i, z, w)))), some (_, .inl _) => if (¬ x < 0 ∧ x.toNatClampNeg < z) ∧ (ek i).map (fun e => e.2) = some v.1 then ev ini n d M S Y r b L t (h.set j (q, .inr (.inr (.inr (i, z, (x.toNatClampNeg, v) :: w))))) cs sl else none
        | _, _ => none
      | _ => none
    | .newarray _ => match st with
      | .inl x :: t => if (¬ x < 0 ∧ x.toNatClampNeg ≤ 1000 ∧ cs + 1 ≤ M ∧ sl + x.toNatClampNeg ≤ S) ∧ fresh (a, cntB h a) L t h = true then ev ini n d M S Y r b L (.inr (.inr (a, cntB h a)) :: t) (h ++ [((a, cntB h a), if k = 0 then .inr (.inl (x.toNatClampNeg, [])) else .inr (.inr (.inl x.toNatClampNeg)))]) (cs + 1) (sl + x.toNatClampNeg) else none
      | _ => none
    | .anewarray _ => match st with
      | .inl x :: t => if (¬ x < 0 ∧ x.toNatClampNeg ≤ 1000 ∧ cs + 1 ≤ M ∧ sl + x.toNatClampNeg ≤ S) ∧ fresh (a, cntB h a) L t h = true then ev ini n d M S Y r b L (.inr (.inr (a, cntB h a)) :: t) (h ++ [((a, cntB h a), .inr (.inr (.inr (k, x.toNatClampNeg, []))))]) (cs + 1) (sl + x.toNatClampNeg) else none
      | _ => none
    | .new _ => if (cs + 1 ≤ M ∧ sl + NF a ≤ S) ∧ fresh (a, cntB h a) L st h = true then ev ini n d M S Y r b L (.inr (.inr (a, cntB h a)) :: st) (h ++ [((a, cntB h a), .inl (dfl a))]) (cs + 1) (sl + NF a) else none
    | .invokespecial _ => if k = 100 then (match st with
        | .inr (.inr _) :: t => if cats t ≤ 8 then ev ini n d M S Y r b L t h cs sl else none
        | _ => none) else match d, ini k, popB a st with
        | d' + 1, some (Y', M', S'), some (as, .inr (.inr q) :: t) => match ev ini n d' M' S' Y' (esOf Y'.2.2 0) 0 (argL (.inr (.inr q) :: as) Y'.1.2.2.1) [] h 0 0 with
          | some h1 => if (cats (.inr (.inr q) :: as) ≤ Y'.1.2.2.1 ∧ cats t ≤ 8 ∧ cs + M' ≤ M ∧ sl + S' ≤ S ∧ 1 < Y'.2.2.length) ∧ (L.all (inKO h) && t.all (inKV h) && keysub h h1) = true then ev ini n (d' + 1) M S Y r b L t h1 (cs + M') (sl + S') else none
          | none => none
        | _, _, _ => none
    | .invokestatic _ => if k = 4 then (match st with
        | .inl y :: .inl x :: t => if cats t ≤ 8 then ev ini n d M S Y r b L (.inl (if x < y then y else x) :: t) h cs sl else none
        | _ => none) else match d, ini k, popB a st with
        | d' + 1, some (Y', M', S'), some (as, t) => match ev ini n d' M' S' Y' (esOf Y'.2.2 0) 0 (argL as Y'.1.2.2.1) [] h 0 0 with
          | some h1 => if (cats as ≤ Y'.1.2.2.1 ∧ cats t ≤ 8 ∧ cs + M' ≤ M ∧ sl + S' ≤ S ∧ 1 < Y'.2.2.length) ∧ (L.all (inKO h) && t.all (inKV h) && keysub h h1) = true then ev ini n (d' + 1) M S Y r b L t h1 (cs + M') (sl + S') else none
          | none => none
        | _, _, _ => none
    | .return_ => if st.length = 0 then some h else none
    | _ => none
/-- is an entry right, by the tables -/
def okEB (ini : INI) (own : String) (sg : Sg) (cd : Cd) (pc : Nat) (en : En) : Bool := match en with
  | (ins, len, a, k, xs, _) => match ins with
    | .aload_n i => len == 1 && i.val == a
    | .iload_n i => len == 1 && i.val == a
    | .istore_n i => len == 1 && i.val == a && decide (a < sg.2.2.1)
    | .iconst n => len == 1 && decide (Int32.ofInt n = kI a k)
    | .bipush n => len == 2 && decide ((Int8.ofInt n).toInt32 = kI a k)
    | .sipush n => len == 3 && decide ((Int16.ofInt n).toInt32 = kI a k)
    | .if_icmp _ o => len == 3 && decide ((pc : Int) + o = (pcOf cd a : Int))
    | .goto o => len == 3 && decide ((pc : Int) + o = (pcOf cd a : Int))
    | .iinc i n => len == 3 && i == a && decide (a < sg.2.2.1) && decide (Int32.ofInt n = kI k (xs.headD 0))
    | .getfield i => len == 3 && decide (a < 9) && decide (k < NF a) && (match wCl[a]? with
        | some r => inT (xs.headD 0) (.fieldLink own i (r.2.1 k).1 (r.2.1 k).2.1 (r.2.1 k).2.2.1)
        | none => false)
    | .putfield i => len == 3 && decide (a < 9) && decide (k < NF a) && decide (sg.1.name = "<init>") && (match wCl[a]? with
        | some r => inT (xs.headD 0) (.fieldLink own i (r.2.1 k).1 (r.2.1 k).2.1 (r.2.1 k).2.2.1) && decide ((r.2.1 k).1 = own)
        | none => false)
    | .new i => len == 3 && decide (a < 9) && (match wCl[a]? with
        | some r => inT (xs.getD 0 0) (.classLink own i r.1) && inT (xs.getD 1 0) (.instantiable r.1 r.2.2) && inT (xs.getD 2 0) (.initialized r.1)
        | none => false)
    | .newarray t => len == 2 && ((k == 0 && decide (newarray.typeOf t = .int)) || (k == 1 && decide (newarray.typeOf t = .long))) && inT (xs.headD 0) (.arrayClass (newarray.typeOf t))
    | .anewarray i => len == 3 && (match ek k with
        | some C => inT (xs.headD 0) (.classLink own i C.1)
        | none => false)
    | .invokespecial i => len == 3 && (if k = 100 then inT (xs.getD 0 0) (.methodLink own i Lib.objectInit) && inT (xs.getD 1 0) (.instanceMethod Lib.objectInit) && inT (xs.getD 2 0) (.code Lib.objectInit ⟨#[0xb1]⟩ 1 none)
        else match ini k with
        | some q => (if xs.getD 1 0 = 1 then inN (xs.getD 0 0) (.methodLinkNest own i q.1.1.1 RW) else inT (xs.getD 0 0) (.methodLink own i q.1.1.1)) && inT (xs.getD 2 0) (.instanceMethod q.1.1.1) && inT (xs.getD 3 0) (.initialized q.1.1.1.cls) && inT (xs.getD 4 0) (.code q.1.1.1 q.1.1.2.1 q.1.1.2.2.1 q.1.1.2.2.2) && decide (q.1.1.2.2.2 = none) && decide (q.1.1.2.2.1 ≤ 20) && decide (q.1.1.1.name = "<init>") && decide (q.1.1.1.cls ≠ "java/lang/invoke/MethodHandle" ∧ q.1.1.1.cls ≠ "java/lang/invoke/VarHandle") && decide ((parseMethodDescriptor q.1.1.1.desc).map (fun d => d.parameters.length) = some a)
        | none => false)
    | .invokestatic i => len == 3 && (if k = 4 then inT (xs.getD 0 0) (.methodLink own i Lib.Math.max.name) && inT (xs.getD 1 0) (.static Lib.Math.max.name) && inT (xs.getD 3 0) (.initialized "java/lang/Math") && inT (xs.getD 4 0) (.code Lib.Math.max.name Lib.Math.max.code 2 (some .int))
        else match ini k with
        | some q => inT (xs.getD 0 0) (.methodLink own i q.1.1.1) && inT (xs.getD 2 0) (.static q.1.1.1) && inT (xs.getD 3 0) (.initialized q.1.1.1.cls) && inT (xs.getD 4 0) (.code q.1.1.1 q.1.1.2.1 q.1.1.2.2.1 q.1.1.2.2.2) && decide (q.1.1.2.2.2 = none) && decide (q.1.1.2.2.1 ≤ 20) && decide (q.1.1.1.cls ≠ "java/lang/invoke/MethodHandle" ∧ q.1.1.1.cls ≠ "java/lang/invoke/VarHandle") && decide ((parseMethodDescriptor q.1.1.1.desc).map (fun d => d.parameters.length) = some a)
        | none => false)
    | .return_ => len == 1
    | _ => len == 1
def okRB (ini : INI) (own : String) (sg : Sg) (cd : Cd) : Nat → List En → Nat → Bool
  | pc, [], nxt => pc == nxt
  | pc, en :: r, nxt => decide (decode sg.2.1 pc = .ok (en.1, en.2.1)) && okEB ini own sg cd pc en && okRB ini own sg cd (pc + en.2.1) r nxt
def okMB (ini : INI) (Y : Mth) : Bool := decide (plainName Y.1.1.cls = true) && decide (Y.1.1.cls = Y.2.1) && decide (pcOf Y.2.2 0 = 0) && decide (Y.1.2.2.2 = none) && (List.range (Y.2.2.length - 1)).all (fun b => okRB ini Y.2.1 Y.1 Y.2.2 (pcOf Y.2.2 b) (esOf Y.2.2 b) (pcOf Y.2.2 (b + 1)))
theorem okMB_at {ini : INI} {Y : Mth} (h : okMB ini Y = true) {b : Nat} (hb : b + 1 < Y.2.2.length) : okRB ini Y.2.1 Y.1 Y.2.2 (pcOf Y.2.2 b) (esOf Y.2.2 b) (pcOf Y.2.2 (b + 1)) = true := by
  simp only [okMB, Bool.and_eq_true, List.all_eq_true, List.mem_range] at h
  exact h.2 b (by omega)
