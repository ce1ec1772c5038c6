/-- does an entry say what its instruction does, by the tables -/
def okE (own : String) (sg : Sg) (cd : Cd) (pc : Nat) (en : En) : Bool := match en with
  | (ins, len, a, k, xs, g) => match ins with
    | .iload i => len == 2 && i == a
    | .iload_n i => len == 1 && i.val == a
    | .lload i => len == 2 && i == a
    | .lload_n i => len == 1 && i.val == a
    | .aload i => len == 2 && i == a
    | .aload_n i => len == 1 && i.val == a
    | .istore i => len == 2 && i == a && decide (a < sg.2.2.1)
    | .istore_n i => len == 1 && i.val == a && decide (a < sg.2.2.1)
    | .lstore i => len == 2 && i == a && decide (a + 1 < sg.2.2.1)
    | .lstore_n i => len == 1 && i.val == a && decide (a + 1 < sg.2.2.1)
    | .astore i => len == 2 && i == a && decide (a < sg.2.2.1)
    | .astore_n i => len == 1 && i.val == a && decide (a < sg.2.2.1)
    | .iconst n => len == 1 && decide (Int32.ofInt n = kI a k)
    | .bipush n => len == 2 && decide ((Int8.ofInt n).toInt32 = kI a k)
    | .sipush n => len == 3 && decide ((Int16.ofInt n).toInt32 = kI a k)
    | .ldc i => len == 2 && inT (xs.headD 0) (.constant own i (kI a k))
    | .ldc_w i => len == 3 && inT (xs.headD 0) (.constant own i (kI a k))
    | .lconst n => len == 1 && decide (Int64.ofNat n.val = kL a k)
    | .ldc2_w i => len == 3 && inT (xs.headD 0) (.constantLong own i (kL a k))
    | .ifCond _ o => len == 3 && decide ((pc : Int) + o = (pcOf cd a : Int))
    | .if_icmp _ o => len == 3 && decide ((pc : Int) + o = (pcOf cd a : Int))
    | .goto o => len == 3 && decide ((pc : Int) + o = (pcOf cd a : Int))
    | .iinc i n => len == 3 && i == a && decide (a < sg.2.2.1) && decide (Int32.ofInt n = kI k (xs.headD 0))
    | .getfield i => len == 3 && decide (a < 9) && decide (k < NF a) && (match wCl[a]? with
        | some r => inT (xs.headD 0) (.fieldLink own i (r.2.1 k).1 (r.2.1 k).2.1 (r.2.1 k).2.2.1)
        | none => false)
    | .putfield i => len == 3 && decide (a < 9) && decide (k < NF a) && (match wCl[a]? with
        | some r => inT (xs.headD 0) (.fieldLink own i (r.2.1 k).1 (r.2.1 k).2.1 (r.2.1 k).2.2.1) && decide ((r.2.1 k).2.2.2 = false) && (decide (tyf r.2.1 k = .int) || (isZ a k && decide (tyf r.2.1 k = .boolean)))
        | none => false)
    | .tableswitch df lo hi os => decide ((pc : Int) + df = (pcOf cd a : Int)) && decide (lo = 0) && decide (hi + 1 = (xs.length : Int)) && decide (os.size = xs.length) && decide (xs.length < 1000) && (List.range xs.length).all (fun j => decide ((pc : Int) + os.getD j 0 = (pcOf cd (xs.getD j 0) : Int)))
    | .invokevirtual i => len == 3 && decide (k < 9) && (match wCl[k]? with
        | some r => decide (g.1.cls = r.1)
        | none => false) && inT (xs.getD 0 0) (.methodLink own i g.1) && inT (xs.getD 1 0) (.instanceMethod g.1) && inT (xs.getD 2 0) (.selects g.1.cls g.1 g.1) && inT (xs.getD 3 0) (.initialized g.1.cls) && inT (xs.getD 4 0) (.code g.1 g.2.1 g.2.2.1 g.2.2.2) && decide (g.2.2.1 ≤ 20) && decide (g.1.cls ≠ "java/lang/invoke/MethodHandle" ∧ g.1.cls ≠ "java/lang/invoke/VarHandle") && decide ((parseMethodDescriptor g.1.desc).map (fun d => d.parameters.length) = some a)
    | .invokestatic i => len == 3 && (if k = 3 then inT (xs.getD 0 0) (.methodLink own i arraycopyName) && inT (xs.getD 1 0) (.native arraycopyName) && inT (xs.getD 2 0) (.static arraycopyName) && inT (xs.getD 3 0) (.initialized "java/lang/System")
        else if k = 4 then inT (xs.getD 0 0) (.methodLink own i Lib.Math.max.name) && inT (xs.getD 1 0) (.static Lib.Math.max.name) && inT (xs.getD 3 0) (.initialized "java/lang/Math") && inT (xs.getD 4 0) (.code Lib.Math.max.name Lib.Math.max.code 2 (some .int))
        else if k = 5 then inT (xs.getD 0 0) (.methodLink own i Lib.Math.min.name) && inT (xs.getD 1 0) (.static Lib.Math.min.name) && inT (xs.getD 3 0) (.initialized "java/lang/Math") && inT (xs.getD 4 0) (.code Lib.Math.min.name Lib.Math.min.code 2 (some .int))
        else if k = 6 then inT (xs.getD 0 0) (.methodLink own i Lib.MathLoose.max_long.x) && inT (xs.getD 1 0) (.static Lib.MathLoose.max_long.x) && inT (xs.getD 3 0) (.initialized "java/lang/Math") && inT (xs.getD 4 0) (.code Lib.MathLoose.max_long.x Lib.MathLoose.max_long.code 4 (some .long))
        else (if k = 2 then inN (xs.getD 0 0) (.methodLinkNest own i g.1 RW) else inT (xs.getD 0 0) (.methodLink own i g.1)) && inT (xs.getD 1 0) (.static g.1) && inT (xs.getD 3 0) (.initialized g.1.cls) && inT (xs.getD 4 0) (.code g.1 g.2.1 g.2.2.1 g.2.2.2) && decide (g.2.2.1 ≤ 20) && decide (g.1.cls ≠ "java/lang/invoke/MethodHandle" ∧ g.1.cls ≠ "java/lang/invoke/VarHandle") && decide ((parseMethodDescriptor g.1.desc).map (fun d => d.parameters.length) = some a))
    | .ireturn => len == 1 && (decide (sg.2.2.2 = some .int) || (k == 1 && decide (sg.2.2.2 = some .boolean)))
    | .lreturn => len == 1 && decide (sg.2.2.2 = some .long)
    | .return_ => len == 1 && decide (sg.2.2.2 = none)
    | _ => len == 1
def okRest (own : String) (sg : Sg) (cd : Cd) : Nat → List En → Nat → Bool
  | pc, [], nxt => pc == nxt
  | pc, en :: r, nxt => decide (decode sg.2.1 pc = .ok (en.1, en.2.1)) && okE own sg cd pc en && okRest own sg cd (pc + en.2.1) r nxt
def okM (Y : Mth) : Bool := decide (plainName Y.1.1.cls = true) && decide (Y.1.1.cls = Y.2.1) && decide (pcOf Y.2.2 0 = 0) && (List.range (Y.2.2.length - 1)).all (fun b => okRest Y.2.1 Y.1 Y.2.2 (pcOf Y.2.2 b) (esOf Y.2.2 b) (pcOf Y.2.2 (b + 1)))
theorem nfw : nativeFrameWords "java/lang/System" "arraycopy" 5 ≤ 20 := by decide +kernel
theorem wCl_mem {a : Nat} {r : vw_C} (h : wCl[a]? = some r) : r ∈ wCl := List.mem_of_getElem? h
theorem wCl_nf {a : Nat} {r : vw_C} (h : wCl[a]? = some r) (ha : a < 9) : r.2.2 = NF a := by
  obtain ⟨C, T, h1⟩ := wCl_NF a ha
  rw [h] at h1
  cases h1
  rfl
theorem fv_vv (X : WX) (u : Mem) (a i k : Nat) : fv X (u.1 a i) a i k = vv X (fm u a i k) := by
  unfold fv fm
  cases fk a k with
  | none => rfl
  | some q => obtain ⟨c, _ | z⟩ := q <;> rfl
theorem kA_at (X : WX) : (tyx X)[0]? = some (X.kA 0, .int) := rfl
theorem ra_ty : ∀ c, c < 49 → ∀ q, ra c = some q → ∃ C, ∀ X : WX, (tyx X)[q.2.2.2]? = some (X.kA q.2.2.2, .object C) := by
  intro c hc q hq
  unfold ra at hq
  split at hq <;> first | (cases hq; exact ⟨_, fun X => rfl⟩) | cases hq
section GOW
variable {d : Nat} {X : WX} {Y : Mth} {Q : Option MV → Mem → Prop} {p : Program} {l : Launch} {e : Env} {R : Room} {s : State} {m : MethodId} {args : Array Value} {below : List Frame} {meth : Method} {c : Code} {cells slots : Nat} {G : State → Prop}
/-- behind a call -/
theorem call_W {H : Heap} {locs : List Loc} {pc : Nat} {ls : Array Slot} {st : List Value} {t : List MV} {Qr : Option MV → Mem → Prop} {aa : Array Value}
    (hr : va_Run p l e R s m args below meth c H locs cells slots 0 0 (F0 m pc ls st) (t.map (vv X)) (okQc X Qr aa) (AX X)) (hS : va_S (AX X) s.heap H locs)
    (kk : ∀ (r : Option MV) (u : Mem) (H1 : Heap) (locs1 : List Loc), Qr r u → va_P X.D wCl (wsx X u) H1 → va_S (AX X) s.heap H1 locs1 → W p l e R s m args below meth c H1 locs1 cells slots G (F0 m (pc + 3) ls ((pushR r t).map (vv X)))) : W p l e R s m args below meth c H locs cells slots G (F0 m pc ls st) := by
  intro T hT XX
  obtain ⟨v, st₀, t1, T', L, h0, X', hL, e1, e2, ⟨⟨r, u, hv, hp, hb⟩, hz, hk⟩, st2⟩ := hr T hT XX
  cases hv
  rw [h0] at hz hk
  obtain ⟨t2, a1, b1⟩ := kk r u T'.heap (locs ++ L) hp (by rw [e1]; exact hb)
    ⟨Nat.le_trans hS.1 (by rw [e1]; exact hz), fun q h1 h2 => by rw [e1, hk q (Nat.lt_of_lt_of_le h1 hS.1) h2]; exact hS.2.1 q h1 h2, fun q hq => by
      rcases List.mem_append.mp hq with h | h
      · exact hS.2.2 q h
      · exact hL q h⟩ T' rfl X'
  refine ⟨t2, st2 t2 ?_, b1⟩
  have : (Option.map (vv X) r).toList ++ List.map (vv X) t = (pushR r t).map (vv X) := by cases r <;> rfl
  rw [this]
  exact a1
set_option maxHeartbeats 4000000 in
set_option maxRecDepth 100000 in
theorem go_W (C0 : Ctx (d + 1) X Y Q p l e R s m args below meth c cells slots G) :
    ∀ (es : List En) (pc b : Nat) (L : List (Option MV)) (st : List MV) (u : Mem) (H : Heap) (locs : List Loc) (ls : Array Slot), okRest Y.2.1 Y.1 Y.2.2 pc es (pcOf Y.2.2 (b + 1)) = true → go d Y Q es b L st u → va_P X.D wCl (wsx X u) H → va_S (AX X) s.heap H locs → LV X ls Y.1.2.2.1 L → W p l e R s m args below meth c H locs cells slots G (F0 m pc ls (st.map (vv X))) := by
  obtain ⟨hx, hb, hml, hown, hts, hK, ⟨hI, hNW⟩, ⟨hR1, hR2, hR3, hR4⟩, hret⟩ := id C0
  have hj : ∀ {b : Nat} {L : List (Option MV)} {st : List MV} {u : Mem} {H : Heap} {locs : List Loc} {ls : Array Slot}, RunB (d + 1) Y b L st u Q → va_P X.D wCl (wsx X u) H → va_S (AX X) s.heap H locs → LV X ls Y.1.2.2.1 L → W p l e R s m args below meth c H locs cells slots G (F0 m (pcOf Y.2.2 b) ls (st.map (vv X))) := fun h hP hS hl => h X p l e R s m args below meth c cells slots G _ _ _ C0 hP hS hl
  intro es
  induction es with
  | nil =>
    intro pc b L st u H locs ls hok hgo hP hS hl
    have hpc : pc = pcOf Y.2.2 (b + 1) := by simpa [okRest] using hok
    subst hpc
    exact hj hgo hP hS hl
  | cons en r ih =>
    intro pc b L st u H locs ls hok hgo hP hS hl
    obtain ⟨ins, len, a, k, xs, g⟩ := en
    simp only [okRest, Bool.and_eq_true, decide_eq_true_eq] at hok
    obtain ⟨⟨hdec, hE⟩, hrest⟩ := hok
    cases ins
    case iload i =>
      simp only [okE, Bool.and_eq_true, beq_iff_eq] at hE
      obtain ⟨rfl, rfl⟩ := hE
      obtain ⟨x, hx1, h⟩ := oI_inv hgo
      exact lv_iload hx hb hdec (hl.at hx1) (ih _ b _ _ _ _ _ _ hrest h hP hS hl)
    case iload_n i =>
      simp only [okE, Bool.and_eq_true, beq_iff_eq] at hE
      obtain ⟨rfl, hi⟩ := hE
      obtain ⟨x, hx1, h⟩ := oI_inv hgo
      exact lv_iload_n hx hb hdec hi (hl.at hx1) (ih _ b _ _ _ _ _ _ hrest h hP hS hl)
    case lload i =>
      simp only [okE, Bool.and_eq_true, beq_iff_eq] at hE
      obtain ⟨rfl, rfl⟩ := hE
      obtain ⟨x, hx1, h⟩ := oL_inv hgo
      exact lv_lload hx hb hdec (hl.at hx1) (ih _ b _ _ _ _ _ _ hrest h hP hS hl)
    case lload_n i =>
      simp only [okE, Bool.and_eq_true, beq_iff_eq] at hE
      obtain ⟨rfl, hi⟩ := hE
      obtain ⟨x, hx1, h⟩ := oL_inv hgo
      exact lv_lload_n hx hb hdec hi (hl.at hx1) (ih _ b _ _ _ _ _ _ hrest h hP hS hl)
    case aload i =>
      simp only [okE, Bool.and_eq_true, beq_iff_eq] at hE
      obtain ⟨rfl, rfl⟩ := hE
      obtain ⟨c1, i1, hx1, h⟩ := oR_inv hgo
      exact lv_aload hx hb hdec (hl.at hx1) (ih _ b _ _ _ _ _ _ hrest h hP hS hl)
    case aload_n i =>
      simp only [okE, Bool.and_eq_true, beq_iff_eq] at hE
      obtain ⟨rfl, hi⟩ := hE
      obtain ⟨c1, i1, hx1, h⟩ := oR_inv hgo
      exact lv_aload_n hx hb hdec hi (hl.at hx1) (ih _ b _ _ _ _ _ _ hrest h hP hS hl)
    case istore i =>
      simp only [okE, Bool.and_eq_true, beq_iff_eq, decide_eq_true_eq] at hE
      obtain ⟨⟨rfl, rfl⟩, hlt⟩ := hE
      obtain ⟨x, t, rfl, h⟩ := pI_inv hgo
      obtain ⟨lv, hl1, hl2⟩ := hl
      exact lv_istore hx hb hdec hl1 hlt rfl fun ls' hl' => ih _ b _ _ _ _ _ _ hrest h hP hS (LV.st1 (v := .inl x) hl2 hl')
    case istore_n i =>
      simp only [okE, Bool.and_eq_true, beq_iff_eq, decide_eq_true_eq] at hE
      obtain ⟨⟨rfl, hi⟩, hlt⟩ := hE
      obtain ⟨x, t, rfl, h⟩ := pI_inv hgo
      obtain ⟨lv, hl1, hl2⟩ := hl
      exact lv_istore_n hx hb hdec hi hl1 hlt rfl fun ls' hl' => ih _ b _ _ _ _ _ _ hrest h hP hS (LV.st1 (v := .inl x) hl2 hl')
    case lstore i =>
      simp only [okE, Bool.and_eq_true, beq_iff_eq, decide_eq_true_eq] at hE
      obtain ⟨⟨rfl, rfl⟩, hlt⟩ := hE
      obtain ⟨x, t, rfl, h⟩ := pL_inv hgo
      obtain ⟨lv, hl1, hl2⟩ := hl
      exact lv_lstore hx hb hdec hl1 hlt rfl fun ls' hl' => ih _ b _ _ _ _ _ _ hrest h hP hS (LV.st2 (v := .inr (.inl x)) hl2 hl')
    case lstore_n i =>
      simp only [okE, Bool.and_eq_true, beq_iff_eq, decide_eq_true_eq] at hE
      obtain ⟨⟨rfl, hi⟩, hlt⟩ := hE
      obtain ⟨x, t, rfl, h⟩ := pL_inv hgo
      obtain ⟨lv, hl1, hl2⟩ := hl
      exact lv_lstore_n hx hb hdec hi hl1 hlt rfl fun ls' hl' => ih _ b _ _ _ _ _ _ hrest h hP hS (LV.st2 (v := .inr (.inl x)) hl2 hl')
    case astore i =>
      simp only [okE, Bool.and_eq_true, beq_iff_eq, decide_eq_true_eq] at hE
      obtain ⟨⟨rfl, rfl⟩, hlt⟩ := hE
      obtain ⟨c1, i1, t, rfl, h⟩ := pR_inv hgo
      obtain ⟨lv, hl1, hl2⟩ := hl
      exact lv_astore hx hb hdec hl1 hlt rfl fun ls' hl' => ih _ b _ _ _ _ _ _ hrest h hP hS (LV.st1 (v := .inr (.inr (c1, i1))) hl2 hl')
    case astore_n i =>
      simp only [okE, Bool.and_eq_true, beq_iff_eq, decide_eq_true_eq] at hE
      obtain ⟨⟨rfl, hi⟩, hlt⟩ := hE
      obtain ⟨c1, i1, t, rfl, h⟩ := pR_inv hgo
      obtain ⟨lv, hl1, hl2⟩ := hl
      exact lv_astore_n hx hb hdec hi hl1 hlt rfl fun ls' hl' => ih _ b _ _ _ _ _ _ hrest h hP hS (LV.st1 (v := .inr (.inr (c1, i1))) hl2 hl')
    case iconst n =>
      simp only [okE, Bool.and_eq_true, beq_iff_eq, decide_eq_true_eq] at hE
      obtain ⟨rfl, hv⟩ := hE
      exact lv_iconst hx hb hdec hv (ih _ b _ _ _ _ _ _ hrest hgo hP hS hl)
    case bipush n =>
      simp only [okE, Bool.and_eq_true, beq_iff_eq, decide_eq_true_eq] at hE
      obtain ⟨rfl, hv⟩ := hE
      exact lv_bipush hx hb hdec hv (ih _ b _ _ _ _ _ _ hrest hgo hP hS hl)
    case sipush n =>
      simp only [okE, Bool.and_eq_true, beq_iff_eq, decide_eq_true_eq] at hE
      obtain ⟨rfl, hv⟩ := hE
      exact lv_sipush hx hb hdec hv (ih _ b _ _ _ _ _ _ hrest hgo hP hS hl)
    case ldc n =>
      simp only [okE, Bool.and_eq_true, beq_iff_eq] at hE
      obtain ⟨rfl, hv⟩ := hE
      exact lv_ldc hx hb hown (hts _ (inT_mem hv)) hdec (ih _ b _ _ _ _ _ _ hrest hgo hP hS hl)
    case ldc_w n =>
      simp only [okE, Bool.and_eq_true, beq_iff_eq] at hE
      obtain ⟨rfl, hv⟩ := hE
      exact lv_ldcw hx hb hown (hts _ (inT_mem hv)) hdec (ih _ b _ _ _ _ _ _ hrest hgo hP hS hl)
    case lconst n =>
      simp only [okE, Bool.and_eq_true, beq_iff_eq, decide_eq_true_eq] at hE
      obtain ⟨rfl, hv⟩ := hE
      exact lv_lconst hx hb hdec hv (ih _ b _ _ _ _ _ _ hrest hgo hP hS hl)
    case ldc2_w n =>
      simp only [okE, Bool.and_eq_true, beq_iff_eq] at hE
      obtain ⟨rfl, hv⟩ := hE
      exact lv_ldc2 hx hb hown (hts _ (inT_mem hv)) hdec (ih _ b _ _ _ _ _ _ hrest hgo hP hS hl)
    case iadd =>
      have hlen : len = 1 := by simpa [okE] using hE
      subst hlen
      obtain ⟨y, t, rfl, h⟩ := pI_inv hgo
      obtain ⟨x, t, rfl, h⟩ := pI_inv h
      exact lv_iadd hx hb hdec (ih _ b _ _ _ _ _ _ hrest h hP hS hl)
    case isub =>
      have hlen : len = 1 := by simpa [okE] using hE
      subst hlen
      obtain ⟨y, t, rfl, h⟩ := pI_inv hgo
      obtain ⟨x, t, rfl, h⟩ := pI_inv h
      exact lv_isub hx hb hdec (ih _ b _ _ _ _ _ _ hrest h hP hS hl)
    case imul =>
      have hlen : len = 1 := by simpa [okE] using hE
      subst hlen
      obtain ⟨y, t, rfl, h⟩ := pI_inv hgo
      obtain ⟨x, t, rfl, h⟩ := pI_inv h
      exact lv_imul hx hb hdec (ih _ b _ _ _ _ _ _ hrest h hP hS hl)
    case idiv =>
      have hlen : len = 1 := by simpa [okE] using hE
      subst hlen
      obtain ⟨y, t, rfl, h⟩ := pI_inv hgo
      obtain ⟨x, t, rfl, h⟩ := pI_inv h
      exact lv_idiv hx hb hdec h.1 (ih _ b _ _ _ _ _ _ hrest h.2 hP hS hl)
    case irem =>
      have hlen : len = 1 := by simpa [okE] using hE
      subst hlen
      obtain ⟨y, t, rfl, h⟩ := pI_inv hgo
      obtain ⟨x, t, rfl, h⟩ := pI_inv h
      exact lv_irem hx hb hdec h.1 (ih _ b _ _ _ _ _ _ hrest h.2 hP hS hl)
    case iand =>
      have hlen : len = 1 := by simpa [okE] using hE
      subst hlen
      obtain ⟨y, t, rfl, h⟩ := pI_inv hgo
      obtain ⟨x, t, rfl, h⟩ := pI_inv h
      exact lv_iand hx hb hdec (ih _ b _ _ _ _ _ _ hrest h hP hS hl)
    case ior =>
      have hlen : len = 1 := by simpa [okE] using hE
      subst hlen
      obtain ⟨y, t, rfl, h⟩ := pI_inv hgo
      obtain ⟨x, t, rfl, h⟩ := pI_inv h
      exact lv_ior hx hb hdec (ih _ b _ _ _ _ _ _ hrest h hP hS hl)
    case ishl =>
      have hlen : len = 1 := by simpa [okE] using hE
      subst hlen
      obtain ⟨y, t, rfl, h⟩ := pI_inv hgo
      obtain ⟨x, t, rfl, h⟩ := pI_inv h
      exact lv_ishl hx hb hdec (ih _ b _ _ _ _ _ _ hrest h hP hS hl)
    case ishr =>
      have hlen : len = 1 := by simpa [okE] using hE
      subst hlen
      obtain ⟨y, t, rfl, h⟩ := pI_inv hgo
      obtain ⟨x, t, rfl, h⟩ := pI_inv h
      exact lv_ishr hx hb hdec (ih _ b _ _ _ _ _ _ hrest h hP hS hl)
    case iushr =>
      have hlen : len = 1 := by simpa [okE] using hE
      subst hlen
      obtain ⟨y, t, rfl, h⟩ := pI_inv hgo
      obtain ⟨x, t, rfl, h⟩ := pI_inv h
      exact lv_iushr hx hb hdec rfl (ih _ b _ _ _ _ _ _ hrest h hP hS hl)
    case i2l =>
      have hlen : len = 1 := by simpa [okE] using hE
      subst hlen
      obtain ⟨x, t, rfl, h⟩ := pI_inv hgo
      exact lv_i2l hx hb hdec rfl (ih _ b _ _ _ _ _ _ hrest h hP hS hl)
    case i2b =>
      have hlen : len = 1 := by simpa [okE] using hE
      subst hlen
      obtain ⟨x, t, rfl, h⟩ := pI_inv hgo
      exact lv_i2b hx hb hdec rfl (ih _ b _ _ _ _ _ _ hrest h hP hS hl)
    case i2s =>
      have hlen : len = 1 := by simpa [okE] using hE
      subst hlen
      obtain ⟨x, t, rfl, h⟩ := pI_inv hgo
      exact lv_i2s hx hb hdec rfl (ih _ b _ _ _ _ _ _ hrest h hP hS hl)
    case ladd =>
      have hlen : len = 1 := by simpa [okE] using hE
      subst hlen
      obtain ⟨y, t, rfl, h⟩ := pL_inv hgo
      obtain ⟨x, t, rfl, h⟩ := pL_inv h
      exact lv_ladd hx hb hdec (ih _ b _ _ _ _ _ _ hrest h hP hS hl)
    case lsub =>
      have hlen : len = 1 := by simpa [okE] using hE
      subst hlen
      obtain ⟨y, t, rfl, h⟩ := pL_inv hgo
      obtain ⟨x, t, rfl, h⟩ := pL_inv h
      exact lv_lsub hx hb hdec (ih _ b _ _ _ _ _ _ hrest h hP hS hl)
    case lmul =>
      have hlen : len = 1 := by simpa [okE] using hE
      subst hlen
      obtain ⟨y, t, rfl, h⟩ := pL_inv hgo
      obtain ⟨x, t, rfl, h⟩ := pL_inv h
      exact lv_lmul hx hb hdec (ih _ b _ _ _ _ _ _ hrest h hP hS hl)
    case ldiv =>
      have hlen : len = 1 := by simpa [okE] using hE
      subst hlen
      obtain ⟨y, t, rfl, h⟩ := pL_inv hgo
      obtain ⟨x, t, rfl, h⟩ := pL_inv h
      exact lv_ldiv hx hb hdec h.1 (ih _ b _ _ _ _ _ _ hrest h.2 hP hS hl)
    case lrem =>
      have hlen : len = 1 := by simpa [okE] using hE
      subst hlen
      obtain ⟨y, t, rfl, h⟩ := pL_inv hgo
      obtain ⟨x, t, rfl, h⟩ := pL_inv h
      exact lv_lrem hx hb hdec h.1 (ih _ b _ _ _ _ _ _ hrest h.2 hP hS hl)
    case lshl =>
      have hlen : len = 1 := by simpa [okE] using hE
      subst hlen
      obtain ⟨y, t, rfl, h⟩ := pI_inv hgo
      obtain ⟨x, t, rfl, h⟩ := pL_inv h
      exact lv_lshl hx hb hdec rfl (ih _ b _ _ _ _ _ _ hrest h hP hS hl)
    case lcmp =>
      have hlen : len = 1 := by simpa [okE] using hE
      subst hlen
      obtain ⟨y, t, rfl, h⟩ := pL_inv hgo
      obtain ⟨x, t, rfl, h⟩ := pL_inv h
      exact W.lcmp hx hb hdec (ih _ b _ _ _ _ _ _ hrest h hP hS hl)
    case ifCond cnd o =>
      simp only [okE, Bool.and_eq_true, beq_iff_eq, decide_eq_true_eq] at hE
      obtain ⟨rfl, ht⟩ := hE
      cases cnd
      case eq =>
        obtain ⟨x, t, rfl, h⟩ := pI_inv hgo
        exact lv_if_eq hx hb hdec ht (fun q => hj (h.1 q) hP hS hl) (fun q => ih _ b _ _ _ _ _ _ hrest (h.2 q) hP hS hl)
      case ne =>
        obtain ⟨x, t, rfl, h⟩ := pI_inv hgo
        exact lv_if_ne hx hb hdec ht (fun q => hj (h.1 q) hP hS hl) (fun q => ih _ b _ _ _ _ _ _ hrest (h.2 q) hP hS hl)
      case lt =>
        obtain ⟨x, t, rfl, h⟩ := pI_inv hgo
        exact lv_if_lt hx hb hdec ht (fun q => hj (h.1 q) hP hS hl) (fun q => ih _ b _ _ _ _ _ _ hrest (h.2 q) hP hS hl)
      case ge =>
        obtain ⟨x, t, rfl, h⟩ := pI_inv hgo
        exact lv_if_ge hx hb hdec ht (fun q => hj (h.1 q) hP hS hl) (fun q => ih _ b _ _ _ _ _ _ hrest (h.2 q) hP hS hl)
      case gt =>
        obtain ⟨x, t, rfl, h⟩ := pI_inv hgo
        exact lv_if_gt hx hb hdec ht (fun q => hj (h.1 q) hP hS hl) (fun q => ih _ b _ _ _ _ _ _ hrest (h.2 q) hP hS hl)
      case le =>
        obtain ⟨x, t, rfl, h⟩ := pI_inv hgo
        exact lv_if_le hx hb hdec ht (fun q => hj (h.1 q) hP hS hl) (fun q => ih _ b _ _ _ _ _ _ hrest (h.2 q) hP hS hl)
    case if_icmp cnd o =>
      simp only [okE, Bool.and_eq_true, beq_iff_eq, decide_eq_true_eq] at hE
      obtain ⟨rfl, ht⟩ := hE
      cases cnd
      case eq =>
        obtain ⟨y, t, rfl, h⟩ := pI_inv hgo
        obtain ⟨x, t, rfl, h⟩ := pI_inv h
        exact lv_icmp_eq hx hb hdec ht (fun q => hj (h.1 q) hP hS hl) (fun q => ih _ b _ _ _ _ _ _ hrest (h.2 q) hP hS hl)
      case ne =>
        obtain ⟨y, t, rfl, h⟩ := pI_inv hgo
        obtain ⟨x, t, rfl, h⟩ := pI_inv h
        exact lv_icmp_ne hx hb hdec ht (fun q => hj (h.1 q) hP hS hl) (fun q => ih _ b _ _ _ _ _ _ hrest (h.2 q) hP hS hl)
      case lt =>
        obtain ⟨y, t, rfl, h⟩ := pI_inv hgo
        obtain ⟨x, t, rfl, h⟩ := pI_inv h
        exact lv_icmp_lt hx hb hdec ht (fun q => hj (h.1 q) hP hS hl) (fun q => ih _ b _ _ _ _ _ _ hrest (h.2 q) hP hS hl)
      case ge =>
        obtain ⟨y, t, rfl, h⟩ := pI_inv hgo
        obtain ⟨x, t, rfl, h⟩ := pI_inv h
        exact lv_icmp_ge hx hb hdec ht (fun q => hj (h.1 q) hP hS hl) (fun q => ih _ b _ _ _ _ _ _ hrest (h.2 q) hP hS hl)
      case gt =>
        obtain ⟨y, t, rfl, h⟩ := pI_inv hgo
        obtain ⟨x, t, rfl, h⟩ := pI_inv h
        exact lv_icmp_gt hx hb hdec ht (fun q => hj (h.1 q) hP hS hl) (fun q => ih _ b _ _ _ _ _ _ hrest (h.2 q) hP hS hl)
      case le =>
        obtain ⟨y, t, rfl, h⟩ := pI_inv hgo
        obtain ⟨x, t, rfl, h⟩ := pI_inv h
        exact lv_icmp_le hx hb hdec ht (fun q => hj (h.1 q) hP hS hl) (fun q => ih _ b _ _ _ _ _ _ hrest (h.2 q) hP hS hl)
    case goto o =>
      simp only [okE, Bool.and_eq_true, beq_iff_eq, decide_eq_true_eq] at hE
      obtain ⟨rfl, ht⟩ := hE
      exact lv_goto hx hb hdec ht (hj hgo hP hS hl)
    case iinc i n =>
      simp only [okE, Bool.and_eq_true, beq_iff_eq, decide_eq_true_eq] at hE
      obtain ⟨⟨⟨rfl, rfl⟩, hlt⟩, hv⟩ := hE
      obtain ⟨x, hx1, h⟩ := oI_inv hgo
      obtain ⟨lv, hl1, hl2⟩ := hl
      obtain ⟨k1, hk1⟩ := List.getElem?_of_mem (hl2 _ _ hx1)
      exact lv_iinc hx hb hdec hl1 hk1 (by rw [hv]) hlt rfl fun ls' hl' => ih _ b _ _ _ _ _ _ hrest h hP hS (LV.st1 (v := .inl _) hl2 hl')
    case dup =>
      have hlen : len = 1 := by simpa [okE] using hE
      subst hlen
      have hgo1 : pA st (fun v t => go d Y Q r b L (v :: v :: t) u) := hgo
      obtain ⟨v, t, rfl, h0, h⟩ := pA_inv hgo1
      exact lv_dup hx hb hdec (by rw [vv_cat, h0]; rfl) (ih _ b _ _ _ _ _ _ hrest h hP hS hl)
    case dup2 =>
      have hlen : len = 1 := by simpa [okE] using hE
      subst hlen
      have hgo1 : pA st (fun v t => pA t fun w t => go d Y Q r b L (v :: w :: v :: w :: t) u) := hgo
      obtain ⟨v, t, rfl, h0, h⟩ := pA_inv hgo1
      obtain ⟨w, t, rfl, h1, h⟩ := pA_inv h
      exact lv_dup2_11 hx hb hdec (by rw [vv_cat, h0]; rfl) (by rw [vv_cat, h1]; rfl) (ih _ b _ _ _ _ _ _ hrest h hP hS hl)
    case pop =>
      have hlen : len = 1 := by simpa [okE] using hE
      subst hlen
      have hgo1 : pA st (fun _ t => go d Y Q r b L t u) := hgo
      obtain ⟨v, t, rfl, h0, h⟩ := pA_inv hgo1
      exact lv_pop hx hb hdec (by rw [vv_cat, h0]; rfl) (ih _ b _ _ _ _ _ _ hrest h hP hS hl)
    case getfield i =>
      simp only [okE, Bool.and_eq_true, beq_iff_eq, decide_eq_true_eq] at hE
      obtain ⟨⟨⟨rfl, ha9⟩, hkF⟩, hln⟩ := hE
      obtain ⟨c1, i1, t, rfl, rfl, hi1, h⟩ := pR_inv hgo
      cases hr : wCl[c1]? with
      | none => rw [hr] at hln; cases hln
      | some q =>
        rw [hr] at hln
        obtain ⟨C, T, N⟩ := q
        have hN : N = NF c1 := wCl_nf hr ha9
        subst hN
        refine va_get (D := X.D) (ci := c1) (C := C) (T := T) (N := NF c1) hx hb hts (wCl_in _ (wCl_mem hr)) hown hK hP (off c1 + i1) (by rw [wsx_at X u hi1, cellF_obj X _ _ i1 ha9]) hr k hkF (hts _ (inT_mem hln)) (fun _ h9 => h9) (v := vv X (fm u c1 i1 k)) (by rw [List.getElem?_map, List.getElem?_range hkF]; simp [fv_vv]) hdec ?_
        exact ih _ b _ (fm u c1 i1 k :: t) _ _ _ _ hrest h hP hS hl
    case putfield i =>
      simp only [okE, Bool.and_eq_true, beq_iff_eq, decide_eq_true_eq] at hE
      obtain ⟨⟨⟨rfl, ha9⟩, hkF⟩, hln⟩ := hE
      obtain ⟨v, t, rfl, h⟩ := pI_inv hgo
      obtain ⟨c1, i1, t, rfl, rfl, hi1, hfk, hz, h⟩ := pR_inv h
      cases hr : wCl[c1]? with
      | none => rw [hr] at hln; cases hln
      | some q =>
        rw [hr] at hln
        obtain ⟨C, T, N⟩ := q
        have hN : N = NF c1 := wCl_nf hr ha9
        subst hN
        simp only [Bool.and_eq_true, Bool.or_eq_true, decide_eq_true_eq] at hln
        obtain ⟨⟨hlk, hfin⟩, hty⟩ := hln
        have hnar : narrow (tyf T k) (.int v) = .int v := by
          rcases hty with hty | ⟨hz1, hty⟩
          · rw [hty]; rfl
          · rw [hty]
            rcases hz hz1 with rfl | rfl <;> decide
        have hfit : fits (tyf T k) (.int v) = true := by
          rcases hty with hty | ⟨hz1, hty⟩
          · rw [hty]; rfl
          · rw [hty]
            rcases hz hz1 with rfl | rfl <;> decide
        refine va_put (D := X.D) (ci := c1) (v := .int v) (ty := tyf T k) (C := C) (T := T) (N := NF c1) hx hb hts (wCl_in _ (wCl_mem hr)) (tyf T) (wCl_ty _ (wCl_mem hr)) (wCl_nm _ (wCl_mem hr)) hown hK hP (wsx_D hI u) hS (off c1 + i1) (by rw [wsx_at X u hi1, cellF_obj X _ _ i1 ha9]) hr k hkF (hts _ (inT_mem hlk)) (fun _ h9 => h9) hfin (wCl_ty _ (wCl_mem hr) k hkF) hnar hfit (by simpa using hkF) hdec (fun H1 locs1 hP1 _ hS1 => ?_)
        rw [fk_set X _ c1 i1 k v hfk, wsx_wr (v := v) (j := k) hi1 _ (by rw [cellF_obj X _ _ i1 ha9])] at hP1
        exact ih _ b _ _ _ _ _ _ hrest h hP1 hS1 hl
    case iaload =>
      have hlen : len = 1 := by simpa [okE] using hE
      subst hlen
      obtain ⟨x, t, rfl, h⟩ := pI_inv hgo
      obtain ⟨c1, i1, t, rfl, hia, hi1, hv, h⟩ := pR_inv h
      have hc1 : (wsx X u)[off c1 + i1]? = some (X.ad c1 i1, .inl (X.kA 0, ln c1 i1, .inl (u.1 c1 i1))) := by rw [wsx_at X u hi1, cellF_int X _ _ i1 hia]
      exact va_iald (D := X.D) hx hb hK hP (off c1 + i1) 0 hc1 rfl hv hdec (ih _ b _ (.inl (rd u c1 i1 x.toNatClampNeg) :: t) _ _ _ _ hrest h hP hS hl)
    case iastore =>
      have hlen : len = 1 := by simpa [okE] using hE
      subst hlen
      obtain ⟨v, t, rfl, h⟩ := pI_inv hgo
      obtain ⟨x, t, rfl, h⟩ := pI_inv h
      obtain ⟨c1, i1, t, rfl, hia, hi1, hv, h⟩ := pR_inv h
      refine va_iast (D := X.D) hx hb hK hP (wsx_D hI u) hS (off c1 + i1) 0 (by rw [wsx_at X u hi1, cellF_int X _ _ i1 hia]) rfl hv hdec (fun H1 locs1 hP1 _ hS1 => ?_)
      rw [wsx_wr (v := v) (j := x.toNatClampNeg) hi1 _ (by rw [cellF_int X _ _ i1 hia])] at hP1
      exact ih _ b _ _ _ _ _ _ hrest h hP1 hS1 hl
    case laload =>
      have hlen : len = 1 := by simpa [okE] using hE
      subst hlen
      obtain ⟨x, t, rfl, h⟩ := pI_inv hgo
      obtain ⟨c1, i1, t, rfl, rfl, hi1, hv, h⟩ := pR_inv h
      have hc1 : (wsx X u)[off 30 + i1]? = some (X.ad 30 i1, .inl (X.kA 1, 2, .inr (.inl u.2))) := by rw [wsx_at X u hi1, cellF_ch]
      exact va_lald (D := X.D) hx hb hK hP (off 30 + i1) 1 hc1 rfl hv hdec (ih _ b _ (.inr (.inl (rdL u x.toNatClampNeg)) :: t) _ _ _ _ hrest h hP hS hl)
    case lastore =>
      have hlen : len = 1 := by simpa [okE] using hE
      subst hlen
      obtain ⟨v, t, rfl, h⟩ := pL_inv hgo
      obtain ⟨x, t, rfl, h⟩ := pI_inv h
      obtain ⟨c1, i1, t, rfl, rfl, hi1, hv, h⟩ := pR_inv h
      refine va_last (D := X.D) hx hb hK hP (wsx_D hI u) hS (off 30 + i1) 1 (by rw [wsx_at X u hi1, cellF_ch]) rfl hv hdec (fun H1 locs1 hP1 _ hS1 => ?_)
      rw [wsx_set (u := u) hi1 (wrL u x.toNatClampNeg v) _ (by rw [cellF_ch]; rfl) (fun a b hb hne => ?_)] at hP1
      · exact ih _ b _ _ _ _ _ _ hrest h hP1 hS1 hl
      · have ha : a ≠ 30 := by
          intro ha
          subst ha
          have : NI 30 = 1 := rfl
          rw [this] at hb hi1
          exact hne ⟨rfl, by omega⟩
        simp [cellF, ha, wrL]
    case aaload =>
      have hlen : len = 1 := by simpa [okE] using hE
      subst hlen
      obtain ⟨x, t, rfl, h⟩ := pI_inv hgo
      obtain ⟨c1, i1, t, rfl, hi1, h⟩ := pR_inv h
      cases hr : ra c1 with
      | none => rw [hr] at h; exact h.elim
      | some q =>
        rw [hr] at h
        obtain ⟨c2, o2, n2, k2⟩ := q
        obtain ⟨C, hC⟩ := ra_ty c1 (ra_lt hr) _ hr
        have hc1 : (wsx X u)[off c1 + i1]? = some (X.ad c1 i1, .inl (X.kA k2, n2, .inr (.inr (.inr (.inr (fun j => some (X.ad c2 (o2 + j)))))))) := by rw [wsx_at X u hi1, cellF_ref X _ _ i1 hr]
        exact va_aldq (D := X.D) hx hb hK hP (off c1 + i1) k2 hc1 (hC X) h.1 hdec (ih _ b _ (.inr (.inr (c2, o2 + x.toNatClampNeg)) :: t) _ _ _ _ hrest h.2 hP hS hl)
    case arraylength =>
      have hlen : len = 1 := by simpa [okE] using hE
      subst hlen
      obtain ⟨c1, i1, t, rfl, hi1, h⟩ := pR_inv hgo
      unfold alen at h
      split at h
      · next n hn =>
        split at hn
        · next hia =>
          cases hn
          have hc1 : (wsx X u)[off c1 + i1]? = some (X.ad c1 i1, .inl (X.kA 0, ln c1 i1, .inl (u.1 c1 i1))) := by rw [wsx_at X u hi1, cellF_int X _ _ i1 hia]
          exact va_alen (D := X.D) hx hb hK hP (off c1 + i1) 0 hc1 (ty := .int) rfl rfl hdec (ih _ b _ (.inl (nI (ln c1 i1)) :: t) _ _ _ _ hrest h hP hS hl)
        · split at hn
          · next q hr =>
            cases hn
            obtain ⟨c2, o2, n2, k2⟩ := q
            obtain ⟨C, hC⟩ := ra_ty c1 (ra_lt hr) _ hr
            have hc1 : (wsx X u)[off c1 + i1]? = some (X.ad c1 i1, .inl (X.kA k2, n2, .inr (.inr (.inr (.inr (fun j => some (X.ad c2 (o2 + j)))))))) := by rw [wsx_at X u hi1, cellF_ref X _ _ i1 hr]
            exact va_alen (D := X.D) hx hb hK hP (off c1 + i1) k2 hc1 (ty := .object C) (hC X) rfl hdec (ih _ b _ (.inl (nI n2) :: t) _ _ _ _ hrest h hP hS hl)
          · split at hn
            · next hch =>
              cases hn
              subst hch
              have hc1 : (wsx X u)[off 30 + i1]? = some (X.ad 30 i1, .inl (X.kA 1, 2, .inr (.inl u.2))) := by rw [wsx_at X u hi1, cellF_ch]
              exact va_alen (D := X.D) hx hb hK hP (off 30 + i1) 1 hc1 (ty := .long) rfl rfl hdec (ih _ b _ (.inl (nI 2) :: t) _ _ _ _ hrest h hP hS hl)
            · cases hn
      · exact h.elim
    case tableswitch df lo hi os =>
      simp only [okE, Bool.and_eq_true, beq_iff_eq, decide_eq_true_eq, List.all_eq_true, List.mem_range] at hE
      obtain ⟨⟨⟨⟨⟨hdf, rfl⟩, hhi⟩, hsz⟩, hbig⟩, hall⟩ := hE
      obtain ⟨x, t, rfl, h⟩ := pI_inv hgo
      have key : ∀ (bs : List Nat) (j : Nat), sw bs j x (fun b' => RunB (d + 1) Y b' L t u Q) a → j + bs.length < 2 ^ 31 → (∃ i b', bs[i]? = some b' ∧ x = nI (j + i) ∧ RunB (d + 1) Y b' L t u Q) ∨ ((∀ i, i < bs.length → x ≠ nI (j + i)) ∧ RunB (d + 1) Y a L t u Q) := by
        intro bs
        induction bs with
        | nil => intro j h _; exact Or.inr ⟨fun i hi => by simp at hi, h⟩
        | cons b1 bs ih2 =>
          intro j h hj2
          by_cases hx1 : x = nI j
          · exact Or.inl ⟨0, b1, rfl, hx1, h.1 hx1⟩
          · rcases ih2 (j + 1) (h.2 hx1) (by simp at hj2; omega) with ⟨i, b', q1, q2, q3⟩ | ⟨q1, q2⟩
            · exact Or.inl ⟨i + 1, b', q1, by rw [q2]; congr 1; omega, q3⟩
            · refine Or.inr ⟨fun i hi => ?_, q2⟩
              cases i with
              | zero => exact hx1
              | succ i => have := q1 i (by simpa using hi); rw [show j + (i + 1) = j + 1 + i by omega]; exact this
      rcases key xs 0 h (by omega) with ⟨i, b', q1, q2, q3⟩ | ⟨q1, q2⟩
      · have hi : i < xs.length := (List.getElem?_eq_some_iff.mp q1).1
        have hxi : x.toInt = (i : Int) := by rw [q2, Nat.zero_add]; exact nI_toInt (by omega)
        have ho : os[(x.toInt - 0).toNat]? = some (os.getD i 0) := by
          rw [hxi]
          have : ((i : Int) - 0).toNat = i := by omega
          rw [this]
          have hlt : i < os.size := by omega
          simp [Array.getD, hlt]
        have ht := hall i hi
        rw [show xs.getD i 0 = b' by simp [List.getD, q1]] at ht
        exact lv_tableIn hx hb hdec (by rw [hxi]; omega) (by rw [hxi]; omega) ho ht (hj q3 hP hS hl)
      · refine lv_tableOut hx hb hdec ?_ hdf (hj q2 hP hS hl)
        by_cases z : x.toInt < 0
        · exact Or.inl z
        · right
          have hnn : ¬ x < 0 := by
            intro z1
            have := Int32.lt_iff_toInt_lt.mp z1
            simp at this
            omega
          obtain ⟨j, hj1, hj2⟩ := nI_of hnn
          have : ¬ j < xs.length := fun z2 => q1 j z2 (by rw [hj2]; congr 1; omega)
          rw [hj2, nI_toInt hj1]
          omega
    case invokevirtual i =>
      simp only [okE, Bool.and_eq_true, beq_iff_eq, decide_eq_true_eq] at hE
      obtain ⟨⟨⟨⟨⟨⟨⟨⟨⟨⟨rfl, hk9⟩, hcl⟩, hl1⟩, hl2⟩, hl3⟩, hl4⟩, hl5⟩, hmx⟩, hnm⟩, hpl⟩ := hE
      obtain ⟨as, t, has, rfl, h⟩ := pops_inv _ _ _ _ hgo
      obtain ⟨c1, i1, t, rfl, rfl, hi1, hct, h⟩ := pR_inv h
      simp only [List.append_nil] at h
      cases hr : wCl[c1]? with
      | none => rw [hr] at hcl; cases hcl
      | some q =>
        rw [hr] at hcl
        simp only [decide_eq_true_eq] at hcl
        have hcode := hts _ (inT_mem hl5)
        have hG : GoodIn tg (wsG g) := by
          intro w hw
          rcases List.mem_cons.mp hw with rfl | hw
          · exact tg_goodIn2 _ (inT_mem hl5)
          · exact tg_goodIn2 w hw
        have hCB : CallB R s args Y.2.1 i g.1 g.2.1 g.2.2.1 g.2.2.2 (wsG g) (rmD d) 0 0 a := callB_of a hts hG rfl rfl rfl (hts _ (inT_mem hl4)) (hts _ (inT_mem hl1)) ⟨hnm.1, hnm.2, hpl⟩ ⟨by simp only [rmD]; omega, by simp only [rmD]; omega⟩
        refine call_W (X := X) (t := t) (va_runV (As := as.map (vv X)) (b := X.ad c1 i1) ⟨hx, hb, hml, hown, hts⟩ (h l X) (C := g.1.cls) (n := a) ⟨hCB, hts _ (inT_mem hl2), hts _ (inT_mem hl3)⟩ ⟨fun a1 U g1 mk q1 => ?_, ?_, fun U hU hW => ?_⟩ rfl (by simpa using has) (by obtain ⟨lv, hl6, -⟩ := hl; exact hl6.1) ?_ (lv_room (by rw [cats_eq]; exact hct)) hdec ⟨by simpa using hR3, by simpa using hR4⟩) hS (fun r1 u1 H1 locs1 hq hP1 hS1 => ?_)
        · exact ⟨q1.1, q1.2.1, va_K.moved (u := U) (U := U.calling g1 mk a1) (Vm.Alike.refl U.vm) q1.2.2.1, q1.2.2.2.1, NW.same (u := U) (U := U.calling g1 mk a1) rfl q1.2.2.2.2⟩
        · rw [hcl]
          exact va_recv hK hP (q0 := off c1 + i1) hr (by rw [wsx_at X u hi1, cellF_obj X _ _ i1 hk9])
        · exact ⟨rfl, by rw [hU]; exact hP, va_K.moved hW.alike hK, hI, NW.warm hW hNW⟩
        · simp [vv]
        · exact ih _ b _ _ _ _ _ _ hrest hq hP1 hS1 hl
    case invokestatic i =>
      simp only [okE, Bool.and_eq_true, beq_iff_eq] at hE
      obtain ⟨rfl, hE⟩ := hE
      by_cases hk3 : k = 3
      · rw [if_pos hk3] at hE
        simp only [Bool.and_eq_true] at hE
        obtain ⟨⟨⟨hl1, hl2⟩, hl3⟩, hl4⟩ := hE
        simp only [go, if_pos hk3] at hgo
        obtain ⟨n, t1, rfl, g1⟩ := pI_inv hgo
        obtain ⟨dp, t2, rfl, g2⟩ := pI_inv g1
        obtain ⟨c2, i2, t3, rfl, g3⟩ := pR_inv g2
        obtain ⟨sp, t4, rfl, g4⟩ := pI_inv g3
        obtain ⟨c1, i1, t, rfl, hia1, hi1, hia2, hi2, hct, h1, h2, h3, h4, h5, h⟩ := pR_inv g4
        refine va_copyi (D := X.D) hx hb (by rw [hml]; obtain ⟨lv, hl6, -⟩ := hl; exact hl6.1.symm) hown (hts _ (inT_mem hl1)) (hts _ (inT_mem hl2)) (hts _ (inT_mem hl3)) (hts _ (inT_mem hl4)) hK hP (wsx_D hI u) hS (off c1 + i1) (off c2 + i2) 0 0 (ty := .int) (by rw [wsx_at X u hi1, cellF_int X _ _ i1 hia1]) (by rw [wsx_at X u hi2, cellF_int X _ _ i2 hia2]) rfl rfl rfl h1 h2 h3 h4 h5 (fun _ _ => rfl) (by omega) (by rw [cats_eq]; have := nfw; omega) hdec (fun H1 locs1 hP1 _ hS1 => ?_)
        rw [wsx_set (u := u) hi2 (cpy u c1 i1 c2 i2 sp.toNatClampNeg dp.toNatClampNeg n.toNatClampNeg) _ (by rw [cellF_int X _ _ i2 hia2]; simp [cpy]) (fun a b _ hne => by simp [cpy, hne])] at hP1
        exact ih _ b _ _ _ _ _ _ hrest h hP1 hS1 hl
      rw [if_neg hk3] at hE
      have hls : c.maxLocals = ls.size := by rw [hml]; obtain ⟨lv, hl6, -⟩ := hl; exact hl6.1.symm
      by_cases hk4 : k = 4
      · rw [if_pos hk4] at hE
        simp only [Bool.and_eq_true] at hE
        obtain ⟨⟨⟨hl1, hl2⟩, hl3⟩, hl4⟩ := hE
        simp only [go, if_neg hk3, if_pos hk4] at hgo
        obtain ⟨y, t1, rfl, g1⟩ := pI_inv hgo
        obtain ⟨x, t, rfl, hct, h⟩ := pI_inv g1
        exact va_mmax hx hb hls hown (hts _ (inT_mem hl1)) (hts _ (inT_mem hl2)) (hts _ (inT_mem hl3)) (hts _ (inT_mem hl4)) (by omega) (by rw [cats_eq]; omega) hR3 hR4 hdec (ih _ b _ (.inl (if x < y then y else x) :: t) _ _ _ _ hrest h hP hS hl)
      rw [if_neg hk4] at hE
      by_cases hk5 : k = 5
      · rw [if_pos hk5] at hE
        simp only [Bool.and_eq_true] at hE
        obtain ⟨⟨⟨hl1, hl2⟩, hl3⟩, hl4⟩ := hE
        simp only [go, if_neg hk3, if_neg hk4, if_pos hk5] at hgo
        obtain ⟨y, t1, rfl, g1⟩ := pI_inv hgo
        obtain ⟨x, t, rfl, hct, h⟩ := pI_inv g1
        exact va_mmin hx hb hls hown (hts _ (inT_mem hl1)) (hts _ (inT_mem hl2)) (hts _ (inT_mem hl3)) (hts _ (inT_mem hl4)) (by omega) (by rw [cats_eq]; omega) hR3 hR4 hdec (ih _ b _ (.inl (if y < x then y else x) :: t) _ _ _ _ hrest h hP hS hl)
      rw [if_neg hk5] at hE
      by_cases hk6 : k = 6
      · rw [if_pos hk6] at hE
        simp only [Bool.and_eq_true] at hE
        obtain ⟨⟨⟨hl1, hl2⟩, hl3⟩, hl4⟩ := hE
        simp only [go, if_neg hk3, if_neg hk4, if_neg hk5, if_pos hk6] at hgo
        obtain ⟨y, t1, rfl, g1⟩ := pL_inv hgo
        obtain ⟨x, t, rfl, hct, h⟩ := pL_inv g1
        exact va_mmax_long hx hb hls hown (hts _ (inT_mem hl1)) (hts _ (inT_mem hl2)) (hts _ (inT_mem hl3)) (hts _ (inT_mem hl4)) (by omega) (by rw [cats_eq]; omega) hR3 hR4 hdec (ih _ b _ (.inr (.inl (if y < x then x else y)) :: t) _ _ _ _ hrest h hP hS hl)
      rw [if_neg hk6] at hE
      simp only [Bool.and_eq_true, decide_eq_true_eq] at hE
      obtain ⟨⟨⟨⟨⟨⟨hl1, hl2⟩, hl4⟩, hl5⟩, hmx⟩, hnm⟩, hpl⟩ := hE
      simp only [go, if_neg hk3, if_neg hk4, if_neg hk5, if_neg hk6] at hgo
      obtain ⟨as, t, has, rfl, hct, h⟩ := pops_inv _ _ _ _ hgo
      simp only [List.append_nil] at h
      have hG : GoodIn tg (wsG g) := by
        intro w hw
        rcases List.mem_cons.mp hw with rfl | hw
        · exact tg_goodIn2 _ (inT_mem hl5)
        · exact tg_goodIn2 w hw
      have hps : PreS s H (okPc X as u) (as.map (vv X)) := ⟨fun a1 U g1 mk q1 => ⟨q1.1, q1.2.1, va_K.moved (u := U) (U := U.calling g1 mk a1) (Vm.Alike.refl U.vm) q1.2.2.1, q1.2.2.2.1, NW.same (u := U) (U := U.calling g1 mk a1) rfl q1.2.2.2.2⟩, fun U hU hW => ⟨rfl, by rw [hU]; exact hP, va_K.moved hW.alike hK, hI, NW.warm hW hNW⟩⟩
      have hrm : (rmD d).frames + 1 ≤ R.frames ∧ 8 + (g.2.2.1 + 11) + (rmD d).locals ≤ R.locals := ⟨by simp only [rmD]; omega, by simp only [rmD]; omega⟩
      by_cases hk2 : k = 2
      · rw [if_pos hk2] at hl1
        refine call_W (X := X) (t := t) (va_runSN (As := as.map (vv X)) ⟨hx, hb, hml, hown, hts⟩ (h l X) (n := a) ⟨va_cnB a hts hG rfl rfl rfl (hNW _ (inN_mem hl1)) (hts _ (inT_mem hl4)) ⟨hnm.1, hnm.2, hpl⟩ hrm, hts _ (inT_mem hl2), trivial⟩ hps rfl (by simpa using has) (by obtain ⟨lv, hl6, -⟩ := hl; exact hl6.1) (by simp) (lv_room (by rw [cats_eq]; exact hct)) hdec ⟨by simpa using hR3, by simpa using hR4⟩) hS (fun r1 u1 H1 locs1 hq hP1 hS1 => ih _ b _ _ _ _ _ _ hrest hq hP1 hS1 hl)
      · rw [if_neg hk2] at hl1
        refine call_W (X := X) (t := t) (va_runS (As := as.map (vv X)) ⟨hx, hb, hml, hown, hts⟩ (h l X) (n := a) ⟨callB_of a hts hG rfl rfl rfl (hts _ (inT_mem hl4)) (hts _ (inT_mem hl1)) ⟨hnm.1, hnm.2, hpl⟩ hrm, hts _ (inT_mem hl2)⟩ hps rfl (by simpa using has) (by obtain ⟨lv, hl6, -⟩ := hl; exact hl6.1) (by simp) (lv_room (by rw [cats_eq]; exact hct)) hdec ⟨by simpa using hR3, by simpa using hR4⟩) hS (fun r1 u1 H1 locs1 hq hP1 hS1 => ih _ b _ _ _ _ _ _ hrest hq hP1 hS1 hl)
    case ireturn =>
      simp only [okE, Bool.and_eq_true, beq_iff_eq, Bool.or_eq_true, decide_eq_true_eq] at hE
      obtain ⟨rfl, hE⟩ := hE
      obtain ⟨v, t, rfl, rfl, hz, h⟩ := pI_inv hgo
      refine hret (some (.inl v)) u H locs ls pc h hP hS ⟨hdec, ?_⟩
      rcases hE with hE | ⟨hk, hE⟩
      · exact Or.inl hE
      · exact Or.inr ⟨hE, hz hk⟩
    case lreturn =>
      simp only [okE, Bool.and_eq_true, beq_iff_eq, decide_eq_true_eq] at hE
      obtain ⟨rfl, hE⟩ := hE
      obtain ⟨v, t, rfl, rfl, h⟩ := pL_inv hgo
      exact hret (some (.inr (.inl v))) u H locs ls pc h hP hS ⟨hdec, hE⟩
    case return_ =>
      simp only [okE, Bool.and_eq_true, beq_iff_eq, decide_eq_true_eq] at hE
      obtain ⟨rfl, hE⟩ := hE
      obtain ⟨rfl, h⟩ := hgo
      exact hret none u H locs ls pc h hP hS ⟨hdec, hE⟩
    all_goals exact absurd hgo id
end GOW
theorem okM_at {Y : Mth} (h : okM Y = true) {b : Nat} (hb : b + 1 < Y.2.2.length) : okRest Y.2.1 Y.1 Y.2.2 (pcOf Y.2.2 b) (esOf Y.2.2 b) (pcOf Y.2.2 (b + 1)) = true := by
  simp only [okM, Bool.and_eq_true, List.all_eq_true, List.mem_range] at h
  exact h.2 b (by omega)
/-- one block -/
theorem run_go {d : Nat} {Y : Mth} {b : Nat} {L : List (Option MV)} {st : List MV} {u : Mem} {Q : Option MV → Mem → Prop} (hok : okM Y = true) (hb : b + 1 < Y.2.2.length) (h : go d Y Q (esOf Y.2.2 b) b L st u) : RunB (d + 1) Y b L st u Q :=
  fun _ _ _ _ _ _ _ _ _ _ _ _ _ _ _ _ _ C0 hP hS hl => go_W C0 _ _ b _ _ _ _ _ _ (okM_at hok hb) h hP hS hl
/-- fewer known locals are enough -/
theorem run_le {d : Nat} {Y : Mth} {b : Nat} {A B : List (Option MV)} {st : List MV} {u : Mem} {Q : Option MV → Mem → Prop} (h : RunB d Y b A st u Q) (hle : leL A B) : RunB d Y b B st u Q :=
  fun _ _ _ _ _ _ _ _ _ _ _ _ _ _ _ _ _ C0 hP hS hl => h _ _ _ _ _ _ _ _ _ _ _ _ _ _ _ _ _ C0 hP hS (hl.le hle)
/-- a weaker end -/
theorem run_mono {d : Nat} {Y : Mth} {b : Nat} {L : List (Option MV)} {st : List MV} {u : Mem} {Q Q' : Option MV → Mem → Prop} (h : RunB d Y b L st u Q) (hq : ∀ r v, Q r v → Q' r v) : RunB d Y b L st u Q' :=
  fun _ _ _ _ _ _ _ _ _ _ _ _ _ _ _ _ _ C0 hP hS hl => h _ _ _ _ _ _ _ _ _ _ _ _ _ _ _ _ _ ⟨C0.1, C0.2.1, C0.2.2.1, C0.2.2.2.1, C0.2.2.2.2.1, C0.2.2.2.2.2.1, C0.2.2.2.2.2.2.1, C0.2.2.2.2.2.2.2.1, fun r u H locs ls pc q => C0.2.2.2.2.2.2.2.2 r u H locs ls pc (hq r u q)⟩ hP hS hl
/-- the locals at a method's entry -/
def argL : List MV → Nat → List (Option MV)
  | [], n => List.replicate n none
  | v :: r, n => if lgq (some v) = true then some v :: none :: argL r (n - 2) else some v :: argL r (n - 1)
theorem argL_at (X : WX) : ∀ (as : List MV) (n i j : Nat) (v : MV), lk (argL as n) j = some v → (i + j, vv X v) ∈ lv_args i (as.map (vv X)) := by
  intro as
  induction as with
  | nil =>
    intro n i j v h
    exfalso
    simp only [argL] at h
    induction n generalizing j with
    | zero => cases h
    | succ n ih => cases j with
      | zero => cases h
      | succ j => exact ih j h
  | cons w r ih =>
    intro n i j v h
    simp only [argL] at h
    simp only [List.map_cons, lv_args, vv_cat]
    by_cases hg : lgq (some w) = true
    · simp only [hg, if_true] at h ⊢
      cases j with
      | zero => cases h; exact List.mem_cons_self
      | succ j => cases j with
        | zero => cases h
        | succ j => exact List.mem_cons_of_mem _ (by have := ih (n - 2) (i + 2) j v h; rwa [show i + 2 + j = i + (j + 1 + 1) by omega] at this)
    · simp only [hg] at h ⊢
      cases j with
      | zero => cases h; exact List.mem_cons_self
      | succ j => exact List.mem_cons_of_mem _ (by have := ih (n - 1) (i + 1) j v h; rw [show i + 1 + j = i + (j + 1) by omega] at this; simpa using this)
theorem argW (X : WX) (as : List MV) : (lg_sl (as.map (vv X))).length = cats as := by
  induction as with
  | nil => rfl
  | cons v r ih =>
    have h : lg_sl ((v :: r).map (vv X)) = (if (vv X v).category = 2 then [.val (vv X v), .second] else [.val (vv X v)]) ++ lg_sl (r.map (vv X)) := by simp only [lg_sl, List.map_cons, List.flatMap_cons]
    rw [h, List.length_append, ih]
    rcases v with x | x | x <;> rfl
/-- a method by the run of its body -/
theorem OKm.of {d : Nat} {Y : Mth} {as : List MV} {u : Mem} {Q : Option MV → Mem → Prop} (hok : okM Y = true) (hn : cats as ≤ Y.1.2.2.1) (h : RunB d Y 0 (argL as Y.1.2.2.1) [] u Q) : OKm d Y.1 as u Q := by
  intro l X
  have hok1 := hok
  simp only [okM, Bool.and_eq_true, decide_eq_true_eq] at hok1
  obtain ⟨⟨⟨hpn, hcl⟩, hpc⟩, -⟩ := hok1
  refine Met.ofW (cc := Y.1.2.1) (maxL := Y.1.2.2.1) (ret := Y.1.2.2.2) hpn rfl ?_
  intro p e s m args below meth c s₁ B hml hv
  obtain ⟨rfl, hP, hK, hI, hNW⟩ := hv
  have hts := atoms_spec (ws := wsG Y.1) B.pre
  have hown : s.vm.findClass Y.2.1 = some m.cls := by rw [← hcl]; exact findClass_of_methodNamed B.named
  have hr := B.returns
  have hlocks := B.notSynchronized
  have hx := B.exec
  have hb := B.bytes
  rw [lg_entry_eq]
  have hl := lv_entry (as.map (vv X)) (n := Y.1.2.2.1) (by rw [argW]; exact hn)
  have hC : Ctx d X Y Q p l e (rmD d) s m (as.map (vv X)).toArray below meth c 0 0 (MQ below (okQc X Q) (as.map (vv X)).toArray s 0 0 (AX X)) := by
    refine ⟨hx, hb, hml, hown, fun w hw => hts w (List.mem_cons_of_mem _ hw), hK, ⟨hI, hNW⟩, ⟨Nat.le_refl _, Nat.le_refl _, Nat.le_refl _, Nat.le_refl _⟩, ?_⟩
    intro r v H locs ls pc hq hP1 hS1 hat
    rcases r with _ | x | x | x
    · exact W.vret hx hb (hr.trans hat.2) (fun t ht hW => ⟨⟨none, v, rfl, hq, by rw [ht]; exact hP1⟩, hS1.F ht⟩) hS1.2.2 hat.1
    · rcases hat.2 with hi | ⟨hz, hz2⟩
      · exact W.iret hx hb (hr.trans hi) (fun t ht hW => ⟨⟨some (.inl x), v, rfl, hq, by rw [ht]; exact hP1⟩, hS1.F ht⟩) hS1.2.2 hat.1
      · exact W.zret hx hb (hr.trans hz) (by rcases hz2 with rfl | rfl <;> decide) (fun t ht hW => ⟨⟨some (.inl x), v, rfl, hq, by rw [ht]; exact hP1⟩, hS1.F ht⟩) hS1.2.2 hat.1
    · exact W.lret hx hb (hr.trans hat.2) (fun t ht hW => ⟨⟨some (.inr (.inl x)), v, rfl, hq, by rw [ht]; exact hP1⟩, hS1.F ht⟩) hS1.2.2 hat.1
    · exact hat.elim
  have := h X p l e (rmD d) s m _ below meth c 0 0 _ s.heap [] _ hC hP va_S.rf ⟨_, hl, fun i v hi => by have := argL_at X as _ 0 i v hi; rwa [Nat.zero_add] at this⟩
  rw [hpc] at this
  exact this
