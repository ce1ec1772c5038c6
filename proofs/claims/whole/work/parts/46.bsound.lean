def AOS (U : State) : Prop := va_AO RX U ∧ va_AO RP U ∧ va_AO RR U ∧ va_AO RB U
theorem AOS.moved {u U : State} (hvm : u.vm.Alike U.vm) (h : AOS u) : AOS U := ⟨h.1.moved hvm, h.2.1.moved hvm, h.2.2.1.moved hvm, h.2.2.2.moved hvm⟩
theorem AOS.at {U : State} (h : AOS U) {k : Nat} {C : String × Nat} (hk : ek k = some C) : va_AO C.1 U := by
  unfold ek at hk
  split at hk <;> first | (cases hk; exact h.1) | (cases hk; exact h.2.1) | (cases hk; exact h.2.2.1) | (cases hk; exact h.2.2.2) | cases hk
theorem ek_ty {k : Nat} {C : String × Nat} (hk : ek k = some C) (X : WX) : (tyx X)[k]? = some (X.kA k, .object C.1) := by
  unfold ek at hk
  split at hk <;> first | (cases hk; rfl) | cases hk
theorem ek_cl {k : Nat} {C : String × Nat} (hk : ek k = some C) : ∃ T, wCl[C.2]? = some (C.1, T, NF C.2) := by
  unfold ek at hk
  split at hk <;> first | (cases hk; exact ⟨_, rfl⟩) | cases hk
def okT (t : FieldType) : Bool := match t with
  | .int => true
  | .boolean => true
  | t => isRf t
theorem okT_def (X : WX) {t : FieldType} (h : okT t = true) : defaultValue t = fvB X (if isRf t = true then none else some (.inl 0)) := by
  cases t <;> first | rfl | cases h
theorem wCl_okT : ∀ r ∈ wCl, ∀ j, j < r.2.2 → okT (tyf r.2.1 j) = true := by decide +kernel
theorem dfl_ok (X : WX) {a : Nat} {r : vw_C} (hr : wCl[a]? = some r) : ∀ j, j < r.2.2 → defaultValue (tyf r.2.1 j) = vp_V ((dfl a).map (fvB X)) j := by
  intro j hj
  unfold dfl
  rw [hr]
  show _ = (List.map (fvB X) ((List.range r.2.2).map _)).getD j .null
  rw [okT_def X (wCl_okT r (wCl_mem hr) j hj)]
  simp [List.getD, List.getElem?_map, List.getElem?_range hj]
theorem okV_nar {X : WX} {a k : Nat} {v : MV} {r : vw_C} (hr : wCl[a]? = some r) (h : okV a k v = true) : narrow (tyf r.2.1 k) (vv X v) = vv X v ∧ fits (tyf r.2.1 k) (vv X v) = true := by
  unfold okV at h
  rw [hr] at h
  rcases v with x | x | q
  · simp only [Bool.or_eq_true, Bool.and_eq_true, decide_eq_true_eq] at h
    rcases h with h | ⟨h, hx⟩
    · rw [h]; exact ⟨rfl, rfl⟩
    · rw [h]
      show narrow .boolean (.int x) = .int x ∧ fits .boolean (.int x) = true
      rcases hx with rfl | rfl <;> exact ⟨by decide, by decide⟩
  · cases h
  · show narrow (tyf r.2.1 k) (.ref _) = .ref _ ∧ fits (tyf r.2.1 k) (.ref _) = true
    have h : isRf (tyf r.2.1 k) = true := h
    generalize tyf r.2.1 k = t at *
    cases t <;> first | exact ⟨rfl, rfl⟩ | cases h
theorem popB_inv : ∀ (n : Nat) (st as t : List MV), popB n st = some (as, t) → as.length = n ∧ st = as.reverse ++ t := by
  intro n
  induction n with
  | zero => intro st as t h; cases h; exact ⟨rfl, rfl⟩
  | succ n ih =>
    intro st as t h
    cases st with
    | nil => cases h
    | cons v st =>
      simp only [popB] at h
      split at h
      · next q hq =>
        cases h
        obtain ⟨h1, h2⟩ := ih st q.1 q.2 hq
        exact ⟨by simp [h1], by simp [h2]⟩
      · cases h
def rmB (d M S : Nat) : Room := { frames := d, cells := M, slots := S, locals := 40 * d }
theorem wsB_at {X : WX} {h : BH} {j : Nat} {q : Nat × Nat} {c : BC} (hj : h[j]? = some (q, c)) : (wsB X h)[j]? = some (X.ad q.1 q.2, cellB X q c) := by
  simp [wsB, List.getElem?_map, hj]
theorem wsB_set {X : WX} {h : BH} {j : Nat} {q : Nat × Nat} {c : BC} {e : va_E} (he : cellB X q c = e) : (wsB X h).set j (X.ad q.1 q.2, e) = wsB X (h.set j (q, c)) := by
  unfold wsB
  rw [← he, List.map_set]
theorem wsB_app {X : WX} {ad : Nat → Nat → Nat} {h : BH} {q : Nat × Nat} {z : Nat} {c : BC} {e : va_E} (hh : h.all (fun e => decide (e.1 ≠ q) && nrC q e.2) = true) (he : cellB (XA X (adU ad q z)) q c = e) : wsB (XA X ad) h ++ [(z, e)] = wsB (XA X (adU ad q z)) (h ++ [(q, c)]) := by
  rw [← wsU X ad q z hh]
  unfold wsB
  rw [List.map_append, ← he]
  show _ ++ [(z, _)] = _ ++ [((adU ad q z) q.1 q.2, _)]
  rw [adU_q]
/-- where a constructor's body stands -/
def CB (d M S : Nat) (X : WX) (Y : Mth) (p : Program) (R : Room) (s : State) (m : MethodId) (args : Array Value) (meth : Method) (c : Code) (A : Nat → Prop) : Prop :=
  p.tables.exec = Jvm.exec ∧ c.code = Y.1.2.1 ∧ c.maxLocals = Y.1.2.2.1 ∧ s.vm.findClass Y.2.1 = some m.cls ∧ (∀ w ∈ tg, w.before args s = true) ∧ va_K X.D wCl (tyx X) s ∧ (NW s ∧ AOS s) ∧ (d + 1 ≤ R.frames ∧ 40 * (d + 1) ≤ R.locals ∧ M ≤ R.cells ∧ S ≤ R.slots) ∧ meth.name = Y.1.1.name ∧ ∀ q, s.heap.size ≤ q → A q
def EvOK (ini : INI) (l : Launch) (n : Nat) : Prop := ∀ (d M S : Nat) (Y : Mth) (es : List En) (b : Nat) (L : List (Option MV)) (st : List MV) (h : BH) (cs sl : Nat) (h' : BH), ev ini n d M S Y es b L st h cs sl = some h' →
  ∀ (X : WX) (ad : Nat → Nat → Nat) (p : Program) (e : Env) (R : Room) (s : State) (m : MethodId) (args : Array Value) (below : List Frame) (meth : Method) (c : Code) (G : State → Prop) (A : Nat → Prop) (pc : Nat) (H : Heap) (locs : List Loc) (ls : Array Slot),
  okRB ini Y.2.1 Y.1 Y.2.2 pc es (pcOf Y.2.2 (b + 1)) = true → okMB ini Y = true → CB d M S X Y p R s m args meth c A →
  va_P X.D wCl (wsB (XA X ad) h) H → va_D A (wsB (XA X ad) h) → va_S A s.heap H locs → LV (XA X ad) ls Y.1.2.2.1 L → cs ≤ M → sl ≤ S →
  (∀ (ad' : Nat → Nat → Nat) (H' : Heap) (locs' : List Loc) (ls' : Array Slot) (pc' : Nat), Agr ad ad' h → va_P X.D wCl (wsB (XA X ad') h') H' → va_D A (wsB (XA X ad') h') → va_S A s.heap H' locs' → decode Y.1.2.1 pc' = .ok (.return_, 1) → W p l e R s m args below meth c H' locs' M S G (F0 m pc' ls' [])) →
  W p l e R s m args below meth c H locs cs sl G (F0 m pc ls (st.map (vv (XA X ad))))
def PcB (X : WX) (ad : Nat → Nat → Nat) (as : List MV) (h : BH) (sz : Nat) : Array Value → State → Prop := fun v U => v = (as.map (vv (XA X ad))).toArray ∧ U.heap.size = sz ∧ va_P X.D wCl (wsB (XA X ad) h) U.heap ∧ va_D (fun _ => True) (wsB (XA X ad) h) ∧ va_K X.D wCl (tyx X) U ∧ NW U ∧ AOS U
def QcB (X : WX) (ad : Nat → Nat → Nat) (h h1 : BH) (sz : Nat) : Array Value → State → Outcome → State → Prop := fun _ st oc t => (oc = .returned none ∧ ∃ ad' : Nat → Nat → Nat, Agr ad ad' h ∧ va_P X.D wCl (wsB (XA X ad') h1) t.heap ∧ va_D (va_A (wsB (XA X ad) h) sz) (wsB (XA X ad') h1)) ∧ va_F (va_A (wsB (XA X ad) h) sz) st t
/-- a constructor's contract, out of its run -/
theorem met_of {ini : INI} {l : Launch} {n : Nat} (hn : EvOK ini l n) {d M S : Nat} {Y : Mth} (hok : okMB ini Y = true) (hlen : 1 < Y.2.2.length) {as : List MV} {h h1 : BH} (hev : ev ini n d M S Y (esOf Y.2.2 0) 0 (argL as Y.1.2.2.1) [] h 0 0 = some h1) (hca : cats as ≤ Y.1.2.2.1) (X : WX) (ad : Nat → Nat → Nat) (sz : Nat) :
    Met l Y.1.1 (wsG Y.1) (rmB (d + 1) M S) (PcB X ad as h sz) (QcB X ad h h1 sz) M S (va_A (wsB (XA X ad) h) sz) := by
  have hok1 := hok
  simp only [okMB, Bool.and_eq_true, decide_eq_true_eq] at hok1
  obtain ⟨⟨⟨⟨hpn, hcl⟩, hpc⟩, hrt⟩, -⟩ := hok1
  refine Met.ofW (cc := Y.1.2.1) (maxL := Y.1.2.2.1) (ret := Y.1.2.2.2) hpn rfl ?_
  intro p e s m args below meth c s₁ B hml hv
  obtain ⟨rfl, hsz, hP, hD, hK, hNW, hAO⟩ := hv
  have hts := atoms_spec (ws := wsG Y.1) B.pre
  have hown : s.vm.findClass Y.2.1 = some m.cls := by rw [← hcl]; exact findClass_of_methodNamed B.named
  have hr := B.returns
  have hlocks := B.notSynchronized
  have hx := B.exec
  have hb := B.bytes
  have hnm : meth.name = Y.1.1.name := (name_of_methodNamed B.named B.method).1
  rw [lg_entry_eq]
  have hl := lv_entry (as.map (vv (XA X ad))) (n := Y.1.2.2.1) (by rw [argW]; exact hca)
  have hC : CB d M S X Y p (rmB (d + 1) M S) s m (as.map (vv (XA X ad))).toArray meth c (va_A (wsB (XA X ad) h) sz) := ⟨hx, hb, hml, hown, fun w hw => hts w (List.mem_cons_of_mem _ hw), hK, ⟨hNW, hAO⟩, ⟨Nat.le_refl _, Nat.le_refl _, Nat.le_refl _, Nat.le_refl _⟩, hnm, fun q hq => Or.inr (by omega)⟩
  have hokb := okMB_at hok (b := 0) (by omega)
  have := hn d M S Y _ 0 _ [] h 0 0 h1 hev X ad p e (rmB (d + 1) M S) s m _ below meth c (MQ below (QcB X ad h h1 sz) (as.map (vv (XA X ad))).toArray s M S (va_A (wsB (XA X ad) h) sz)) (va_A (wsB (XA X ad) h) sz) (pcOf Y.2.2 0) s.heap [] _ hokb hok hC hP hD.self va_S.rf ⟨_, hl, fun i v hi => by have := argL_at (XA X ad) as _ 0 i v hi; rwa [Nat.zero_add] at this⟩ (Nat.zero_le _) (Nat.zero_le _) (fun ad' H' locs' ls' pc' hag hP' hD' hS' hdec => ?_)
  · rw [hpc] at this
    exact this
  · exact W.vret hx hb (hr.trans hrt) (fun t ht hW => ⟨⟨rfl, ad', hag, by rw [ht]; exact hP', hD'⟩, hS'.F ht⟩) hS'.2.2 hdec
/-- behind a constructor's call -/
theorem callB_W {p : Program} {l : Launch} {e : Env} {R : Room} {s : State} {m : MethodId} {args : Array Value} {below : List Frame} {meth : Method} {c : Code} {G : State → Prop} {A : Nat → Prop} {X : WX} {ad : Nat → Nat → Nat} {h h1 : BH} {cells slots mc ms : Nat} {H : Heap} {locs : List Loc} {pc : Nat} {ls : Array Slot} {st rest : List Value} {aa : Array Value}
    (hr : va_Run p l e R s m args below meth c H locs cells slots mc ms (F0 m pc ls st) rest (QcB X ad h h1 H.size aa) (va_A (wsB (XA X ad) h) H.size)) (hD : va_D A (wsB (XA X ad) h)) (hS : va_S A s.heap H locs) (hA : ∀ q, s.heap.size ≤ q → A q)
    (kk : ∀ (ad' : Nat → Nat → Nat) (H1 : Heap) (locs1 : List Loc), Agr ad ad' h → va_P X.D wCl (wsB (XA X ad') h1) H1 → va_D A (wsB (XA X ad') h1) → va_S A s.heap H1 locs1 → W p l e R s m args below meth c H1 locs1 (cells + mc) (slots + ms) G (F0 m (pc + 3) ls rest)) : W p l e R s m args below meth c H locs cells slots G (F0 m pc ls st) := by
  have hAA : ∀ q, va_A (wsB (XA X ad) h) H.size q → A q := fun q hq => hq.elim (fun ⟨k, e, he⟩ => hD.2 k _ he) (fun hz => hA q (Nat.le_trans hS.1 hz))
  intro T hT XX
  obtain ⟨v, st₀, t1, T', L, h0, X', hL, e1, e2, ⟨⟨hv, ad', hag, hp, hd⟩, hz, hk⟩, st2⟩ := hr T hT XX
  cases hv
  rw [h0] at hz hk
  obtain ⟨t2, a1, b1⟩ := kk ad' T'.heap (locs ++ L) hag (by rw [e1]; exact hp) (hd.weaken fun _ _ _ hq => hAA _ hq)
    ⟨Nat.le_trans hS.1 (by rw [e1]; exact hz), fun q h1 h2 => by rw [e1, hk q (Nat.lt_of_lt_of_le h1 hS.1) (fun z => h2 (hAA q z))]; exact hS.2.1 q h1 h2, fun q hq => by
      rcases List.mem_append.mp hq with h | h
      · exact hS.2.2 q h
      · exact hAA _ (hL q h)⟩ T' rfl X'
  exact ⟨t2, st2 t2 a1, b1⟩
theorem RA_uniq {s : State} {a b : ClassId} {ty : FieldType} (h1 : va_RA s a ty) (h2 : va_RA s b ty) : a = b := by
  cases ty with
  | object C =>
    obtain ⟨_, _, _, _, _, h4⟩ := h1
    obtain ⟨_, _, _, _, _, h5⟩ := h2
    exact Option.some.inj (h4.symm.trans h5)
  | _ => exact Option.some.inj (Eq.trans (Eq.symm h1) h2)
theorem keysub_rf (h : BH) : keysub h h = true := List.all_eq_true.mpr fun e he => List.any_eq_true.mpr ⟨e, he, decide_eq_true rfl⟩
theorem stU (X : WX) (ad : Nat → Nat → Nat) (q : Nat × Nat) (z : Nat) {t : List MV} (h : t.all (nrV q) = true) : (Value.ref z :: t.map (vv (XA X ad)) : List Value) = (((.inr (.inr q) : MV) :: t).map (vv (XA X (adU ad q z)))) := by
  rw [List.map_cons]
  have e1 : vv (XA X (adU ad q z)) (.inr (.inr q)) = Value.ref z := congrArg Value.ref (adU_q ad q z)
  rw [e1, List.map_congr_left fun v hv => vvU X ad q z (List.all_eq_true.mp h v hv)]
theorem fresh_inv {q : Nat × Nat} {L : List (Option MV)} {st : List MV} {h : BH} (hf : fresh q L st h = true) : L.all (nrO q) = true ∧ st.all (nrV q) = true ∧ h.all (fun e => decide (e.1 ≠ q) && nrC q e.2) = true := by
  simp only [fresh, Bool.and_eq_true] at hf
  exact ⟨hf.1.1, hf.1.2, hf.2⟩
theorem LV.freshU {X : WX} {ad : Nat → Nat → Nat} {q : Nat × Nat} {z : Nat} {ls : Array Slot} {nL : Nat} {L : List (Option MV)} (h : LV (XA X ad) ls nL L) (hf : L.all (nrO q) = true) : LV (XA X (adU ad q z)) ls nL L := h.conv fun v hv => vvU X ad q z (List.all_eq_true.mp hf (some v) hv)
set_option maxHeartbeats 4000000 in
set_option maxRecDepth 100000 in
theorem ev_ok {ini : INI} (hini : ∀ k q, ini k = some q → okMB ini q.1 = true) (l : Launch) : ∀ n, EvOK ini l n := by
  intro n
  induction n with
  | zero => intro d M S Y es b L st h cs sl h' hev; simp [ev] at hev
  | succ n ih =>
    intro d M S Y es b L st h cs sl h' hev X ad p e R s m args below meth c G A pc H locs ls hok hokM C0 hP hD hS hl hcs hsl hret
    obtain ⟨hx, hb, hml, hown, hts, hK, ⟨hNW, hAO⟩, ⟨hR1, hR2, hR3, hR4⟩, hnm, hA⟩ := id C0
    have hsz : ls.size = Y.1.2.2.1 := by obtain ⟨lv, h6, -⟩ := hl; exact h6.1
    have go : ∀ {es' : List En} {b' : Nat} {L' : List (Option MV)} {st' : List MV} {h2 : BH} {cs' sl' : Nat} {ad2 : Nat → Nat → Nat} {pc' : Nat} {H2 : Heap} {locs2 : List Loc} {ls2 : Array Slot}, ev ini n d M S Y es' b' L' st' h2 cs' sl' = some h' → okRB ini Y.2.1 Y.1 Y.2.2 pc' es' (pcOf Y.2.2 (b' + 1)) = true → va_P X.D wCl (wsB (XA X ad2) h2) H2 → va_D A (wsB (XA X ad2) h2) → va_S A s.heap H2 locs2 → LV (XA X ad2) ls2 Y.1.2.2.1 L' → cs' ≤ M → sl' ≤ S → Agr ad ad2 h → keysub h h2 = true → W p l e R s m args below meth c H2 locs2 cs' sl' G (F0 m pc' ls2 (st'.map (vv (XA X ad2)))) :=
      fun e1 e2 e3 e4 e5 e6 e7 e8 e9 e10 => ih d M S Y _ _ _ _ _ _ _ _ e1 X _ p e R s m args below meth c G A _ _ _ _ e2 hokM C0 e3 e4 e5 e6 e7 e8 (fun ad' H' locs' ls' pc' a1 => hret ad' H' locs' ls' pc' (Agr.tr e9 a1 e10))
    have rf : Agr ad ad h := fun _ _ => rfl
    have kr := keysub_rf h
    cases es with
    | nil =>
      have hpc : pc = pcOf Y.2.2 (b + 1) := by simpa [okRB] using hok
      subst hpc
      by_cases hb2 : b + 2 < Y.2.2.length
      · simp only [ev, if_pos hb2] at hev
        exact go hev (okMB_at hokM (by omega)) hP hD hS hl hcs hsl rf kr
      · simp [ev, hb2] at hev
    | cons en r =>
      obtain ⟨ins, len, a, k, xs, g⟩ := en
      simp only [okRB, Bool.and_eq_true, decide_eq_true_eq] at hok
      obtain ⟨⟨hdec, hE⟩, hrest⟩ := hok
      cases ins
      case aload_n i =>
        simp only [okEB, Bool.and_eq_true, beq_iff_eq] at hE
        obtain ⟨rfl, hi⟩ := hE
        cases hq : lk L a with
        | none => simp [ev, hq] at hev
        | some v =>
          rcases v with x | x | q
          · simp [ev, hq] at hev
          · simp [ev, hq] at hev
          · simp only [ev, hq] at hev
            exact lv_aload_n hx hb hdec hi (hl.at hq) (go hev hrest hP hD hS hl hcs hsl rf kr)
      case iload_n i =>
        simp only [okEB, Bool.and_eq_true, beq_iff_eq] at hE
        obtain ⟨rfl, hi⟩ := hE
        cases hq : lk L a with
        | none => simp [ev, hq] at hev
        | some v =>
          rcases v with x | x | q
          · simp only [ev, hq] at hev
            exact lv_iload_n hx hb hdec hi (hl.at hq) (go hev hrest hP hD hS hl hcs hsl rf kr)
          · simp [ev, hq] at hev
          · simp [ev, hq] at hev
      case istore_n i =>
        simp only [okEB, Bool.and_eq_true, beq_iff_eq, decide_eq_true_eq] at hE
        obtain ⟨⟨rfl, hi⟩, hlt⟩ := hE
        rcases st with _ | ⟨x | x | q, t⟩
        · simp [ev] at hev
        · simp only [ev] at hev
          obtain ⟨lv, hl1, hl2⟩ := hl
          exact lv_istore_n hx hb hdec hi hl1 hlt rfl fun ls' hl' => go hev hrest hP hD hS (LV.st1 (v := .inl x) hl2 hl') hcs hsl rf kr
        · simp [ev] at hev
        · simp [ev] at hev
      case iinc i nn =>
        simp only [okEB, Bool.and_eq_true, beq_iff_eq, decide_eq_true_eq] at hE
        obtain ⟨⟨⟨rfl, rfl⟩, hlt⟩, hv⟩ := hE
        cases hq : lk L i with
        | none => simp [ev, hq] at hev
        | some v =>
          rcases v with x | x | q
          · simp only [ev, hq] at hev
            obtain ⟨lv, hl1, hl2⟩ := hl
            obtain ⟨k1, hk1⟩ := List.getElem?_of_mem (hl2 _ _ hq)
            exact lv_iinc hx hb hdec hl1 hk1 (by rw [hv]) hlt rfl fun ls' hl' => go hev hrest hP hD hS (LV.st1 (v := .inl _) hl2 hl') hcs hsl rf kr
          · simp [ev, hq] at hev
          · simp [ev, hq] at hev
      case iconst nn =>
        simp only [okEB, Bool.and_eq_true, beq_iff_eq, decide_eq_true_eq] at hE
        obtain ⟨rfl, hv⟩ := hE
        simp only [ev] at hev
        exact lv_iconst hx hb hdec hv (go hev hrest hP hD hS hl hcs hsl rf kr)
      case bipush nn =>
        simp only [okEB, Bool.and_eq_true, beq_iff_eq, decide_eq_true_eq] at hE
        obtain ⟨rfl, hv⟩ := hE
        simp only [ev] at hev
        exact lv_bipush hx hb hdec hv (go hev hrest hP hD hS hl hcs hsl rf kr)
      case sipush nn =>
        simp only [okEB, Bool.and_eq_true, beq_iff_eq, decide_eq_true_eq] at hE
        obtain ⟨rfl, hv⟩ := hE
        simp only [ev] at hev
        exact lv_sipush hx hb hdec hv (go hev hrest hP hD hS hl hcs hsl rf kr)
      case dup =>
        have hlen : len = 1 := by simpa [okEB] using hE
        subst hlen
        rcases st with _ | ⟨x | x | q, t⟩
        · simp [ev] at hev
        · simp [ev] at hev
        · simp [ev] at hev
        · simp only [ev] at hev
          exact lv_dup hx hb hdec rfl (go hev hrest hP hD hS hl hcs hsl rf kr)
      case goto o =>
        simp only [okEB, Bool.and_eq_true, beq_iff_eq, decide_eq_true_eq] at hE
        obtain ⟨rfl, ht⟩ := hE
        by_cases ha : a + 1 < Y.2.2.length
        · simp only [ev, if_pos ha] at hev
          exact lv_goto hx hb hdec ht (go hev (okMB_at hokM ha) hP hD hS hl hcs hsl rf kr)
        · simp [ev, ha] at hev
      case if_icmp cnd o =>
        simp only [okEB, Bool.and_eq_true, beq_iff_eq, decide_eq_true_eq] at hE
        obtain ⟨rfl, ht⟩ := hE
        cases cnd
        case ge =>
          rcases st with _ | ⟨y | x | q, _ | ⟨x | x | q, t⟩⟩
          all_goals first | (simp [ev] at hev; done) | skip
          by_cases hle : y ≤ x
          · by_cases ha : a + 1 < Y.2.2.length
            · simp only [ev, if_pos hle, if_pos ha] at hev
              exact lv_icmp_ge hx hb hdec ht (fun _ => go hev (okMB_at hokM ha) hP hD hS hl hcs hsl rf kr) (fun z => absurd hle z)
            · simp [ev, hle, ha] at hev
          · simp only [ev, if_neg hle] at hev
            exact lv_icmp_ge hx hb hdec ht (fun z => absurd z hle) (fun _ => go hev hrest hP hD hS hl hcs hsl rf kr)
        all_goals simp [ev] at hev
      case arraylength =>
        have hlen : len = 1 := by simpa [okEB] using hE
        subst hlen
        rcases st with _ | ⟨x | x | q, t⟩
        · simp [ev] at hev
        · simp [ev] at hev
        · simp [ev] at hev
        · cases hb1 : bix h q with
          | none => simp [ev, hb1] at hev
          | some jc =>
            obtain ⟨j, fs | ⟨z, w⟩ | z | ⟨i, z, w⟩⟩ := jc
            · simp [ev, hb1] at hev
            · simp only [ev, hb1] at hev
              exact va_alen (D := X.D) hx hb hK hP j 0 (wsB_at (bix_at h q j _ hb1)) (ty := .int) rfl rfl hdec (go (st' := .inl (nI z) :: t) hev hrest hP hD hS hl hcs hsl rf kr)
            · simp [ev, hb1] at hev
            · cases hek : ek i with
              | none => simp [ev, hb1, hek] at hev
              | some C =>
                simp only [ev, hb1, hek, Option.isSome_some, if_true] at hev
                exact va_alen (D := X.D) hx hb hK hP j i (wsB_at (bix_at h q j _ hb1)) (ty := .object C.1) (ek_ty hek X) rfl hdec (go (st' := .inl (nI z) :: t) hev hrest hP hD hS hl hcs hsl rf kr)
      case getfield i =>
        simp only [okEB, Bool.and_eq_true, beq_iff_eq, decide_eq_true_eq] at hE
        obtain ⟨⟨⟨rfl, ha9⟩, hkF⟩, hln⟩ := hE
        rcases st with _ | ⟨x | x | q, t⟩
        · simp [ev] at hev
        · simp [ev] at hev
        · simp [ev] at hev
        · by_cases hqa : q.1 = a
          · subst hqa
            cases hb1 : bix h q with
            | none => simp [ev, hb1] at hev
            | some jc =>
              obtain ⟨j, fs | ⟨z, w⟩ | z | ⟨i2, z, w⟩⟩ := jc
              · cases hf : fs[k]? with
                | none => simp [ev, hb1, hf] at hev
                | some o =>
                  cases o with
                  | none => simp [ev, hb1, hf] at hev
                  | some v =>
                    simp only [ev, hb1, hf, if_true] at hev
                    cases hr : wCl[q.1]? with
                    | none => rw [hr] at hln; cases hln
                    | some w =>
                      rw [hr] at hln
                      obtain ⟨C, T, N⟩ := w
                      have hN : N = NF q.1 := wCl_nf hr ha9
                      subst hN
                      exact va_get (D := X.D) (ci := q.1) (C := C) (T := T) (N := NF q.1) hx hb hts (wCl_in _ (wCl_mem hr)) hown hK hP j (fs := fs.map (fvB (XA X ad))) (wsB_at (bix_at h q j _ hb1)) hr k hkF (hts _ (inT_mem hln)) (fun _ h9 => h9) (v := vv (XA X ad) v) (by rw [List.getElem?_map, hf]; rfl) hdec (go (st' := v :: t) hev hrest hP hD hS hl hcs hsl rf kr)
              · simp [ev, hb1] at hev
              · simp [ev, hb1] at hev
              · simp [ev, hb1] at hev
          · simp [ev, hqa] at hev
      case putfield i =>
        simp only [okEB, Bool.and_eq_true, beq_iff_eq, decide_eq_true_eq] at hE
        obtain ⟨⟨⟨⟨rfl, ha9⟩, hkF⟩, hin⟩, hln⟩ := hE
        rcases st with _ | ⟨v, _ | ⟨x | x | q, t⟩⟩
        · simp [ev] at hev
        · simp [ev] at hev
        · simp [ev] at hev
        · simp [ev] at hev
        · by_cases hqa : q.1 = a ∧ okV a k v = true
          · obtain ⟨hqa, hokv⟩ := hqa
            subst hqa
            cases hb1 : bix h q with
            | none => simp [ev, hb1] at hev
            | some jc =>
              obtain ⟨j, fs | ⟨z, w⟩ | z | ⟨i2, z, w⟩⟩ := jc
              · by_cases hk : k < fs.length
                · simp only [ev, hb1, hokv, and_self, if_true, if_pos hk] at hev
                  have hat := bix_at h q j _ hb1
                  cases hr : wCl[q.1]? with
                  | none => rw [hr] at hln; cases hln
                  | some w =>
                    rw [hr] at hln
                    have hnf := okV_nar (X := XA X ad) hr hokv
                    obtain ⟨C, T, N⟩ := w
                    have hN : N = NF q.1 := wCl_nf hr ha9
                    subst hN
                    simp only [Bool.and_eq_true, decide_eq_true_eq] at hln
                    obtain ⟨hlk, hdc⟩ := hln
                    have es : cellB (XA X ad) q (.inl (fs.set k (some v))) = .inr (q.1, (fs.map (fvB (XA X ad))).set k (vv (XA X ad) v)) := by
                      show Sum.inr (q.1, _) = _
                      rw [List.map_set]
                      rfl
                    have fin : ∀ (H1 : Heap) (locs1 : List Loc), va_P X.D wCl ((wsB (XA X ad) h).set j ((XA X ad).ad q.1 q.2, .inr (q.1, (fs.map (fvB (XA X ad))).set k (vv (XA X ad) v)))) H1 → va_D A ((wsB (XA X ad) h).set j ((XA X ad).ad q.1 q.2, .inr (q.1, (fs.map (fvB (XA X ad))).set k (vv (XA X ad) v)))) → va_S A s.heap H1 locs1 → W p l e R s m args below meth c H1 locs1 cs sl G (F0 m (pc + 3) ls (t.map (vv (XA X ad)))) := by
                      intro H1 locs1 hP1 hD1 hS1
                      rw [wsB_set es] at hP1 hD1
                      exact go hev hrest hP1 hD1 hS1 hl hcs hsl rf (keysub_set hat)
                    cases hfin : (T k).2.2.2 with
                    | false => exact va_put (D := X.D) (ci := q.1) (v := vv (XA X ad) v) (ty := tyf T k) (C := C) (T := T) (N := NF q.1) hx hb hts (wCl_in _ (wCl_mem hr)) (tyf T) (wCl_ty _ (wCl_mem hr)) (wCl_nm _ (wCl_mem hr)) hown hK hP hD hS j (fs := fs.map (fvB (XA X ad))) (wsB_at hat) hr k hkF (hts _ (inT_mem hlk)) (fun _ h9 => h9) hfin (wCl_ty _ (wCl_mem hr) k hkF) hnf.1 hnf.2 (by simpa using hk) hdec fin
                    | true => exact va_putF (D := X.D) (ci := q.1) (v := vv (XA X ad) v) (ty := tyf T k) (C := C) (T := T) (N := NF q.1) hx hb hts (wCl_in _ (wCl_mem hr)) (tyf T) (wCl_ty _ (wCl_mem hr)) (wCl_nm _ (wCl_mem hr)) hown hK hP hD hS j (fs := fs.map (fvB (XA X ad))) (wsB_at hat) hr k hkF (hts _ (inT_mem hlk)) (fun _ h9 => h9) hfin (hnm.trans hin) hdc (wCl_ty _ (wCl_mem hr) k hkF) hnf.1 hnf.2 (by simpa using hk) hdec fin
                · simp [ev, hb1, hokv, hk] at hev
              · simp [ev, hb1] at hev
              · simp [ev, hb1] at hev
              · simp [ev, hb1] at hev
          · simp only [ev, if_neg hqa] at hev
            cases hev
      case iastore =>
        have hlen : len = 1 := by simpa [okEB] using hE
        subst hlen
        rcases st with _ | ⟨v | v | q, _ | ⟨x | x | q, _ | ⟨y | y | q, t⟩⟩⟩
        all_goals first | (simp [ev] at hev; done) | skip
        cases hb1 : bix h q with
        | none => simp [ev, hb1] at hev
        | some jc =>
          obtain ⟨j, fs | ⟨z, w⟩ | z | ⟨i2, z, w⟩⟩ := jc
          · simp [ev, hb1] at hev
          · by_cases hc : ¬ x < 0 ∧ x.toNatClampNeg < z
            · simp only [ev, hb1, if_pos hc] at hev
              have hat := bix_at h q j _ hb1
              refine va_iast (D := X.D) hx hb hK hP hD hS j 0 (wsB_at hat) rfl (fun z1 => z1.elim hc.1 (fun z2 => absurd hc.2 (Nat.not_lt.mpr z2))) hdec (fun H1 locs1 hP1 hD1 hS1 => ?_)
              have es : cellB (XA X ad) q (.inr (.inl (z, (x.toNatClampNeg, v) :: w))) = .inl ((XA X ad).kA 0, z, .inl (upd (lkI w) x.toNatClampNeg v)) := rfl
              rw [wsB_set es] at hP1 hD1
              exact go hev hrest hP1 hD1 hS1 hl hcs hsl rf (keysub_set hat)
            · simp only [ev, hb1, if_neg hc] at hev
              cases hev
          · simp [ev, hb1] at hev
          · simp [ev, hb1] at hev
      case aastore =>
        have hlen : len = 1 := by simpa [okEB] using hE
        subst hlen
        rcases st with _ | ⟨v | v | v, _ | ⟨x | x | q, _ | ⟨y | y | q, t⟩⟩⟩
        all_goals first | (simp [ev] at hev; done) | skip
        cases hb1 : bix h q with
        | none => simp [ev, hb1] at hev
        | some jc =>
          cases hb2 : bix h v with
          | none => simp [ev, hb1, hb2] at hev
          | some jd =>
            obtain ⟨j, fs | ⟨z, w⟩ | z | ⟨i2, z, w⟩⟩ := jc
            · simp [ev, hb1, hb2] at hev
            · simp [ev, hb1, hb2] at hev
            · simp [ev, hb1, hb2] at hev
            · obtain ⟨jv, fv | ⟨zv, wv⟩ | zv | ⟨iv, zv, wv⟩⟩ := jd
              · by_cases hc : (¬ x < 0 ∧ x.toNatClampNeg < z) ∧ (ek i2).map (fun e => e.2) = some v.1
                · simp only [ev, hb1, hb2, if_pos hc] at hev
                  obtain ⟨⟨hc1, hc2⟩, hc3⟩ := hc
                  cases hek : ek i2 with
                  | none => rw [hek] at hc3; cases hc3
                  | some C =>
                    rw [hek] at hc3
                    have hCv : C.2 = v.1 := Option.some.inj hc3
                    obtain ⟨T, hT⟩ := ek_cl hek
                    rw [hCv] at hT
                    have hat := bix_at h q j _ hb1
                    refine va_astq (D := X.D) hx hb hK hP hD hS j i2 jv v.1 (r := (C.1, T, NF v.1)) (wsB_at hat) (ek_ty hek X) (wsB_at (bix_at h v jv _ hb2)) hT (fun z1 => z1.elim hc1 (fun z2 => absurd hc2 (Nat.not_lt.mpr z2))) hdec (fun H1 locs1 hP1 hD1 hS1 => ?_)
                    have ef : (fun j => (lkR ((x.toNatClampNeg, v) :: w) j).map (fun q => (XA X ad).ad q.1 q.2)) = va_up (fun j => (lkR w j).map (fun q => (XA X ad).ad q.1 q.2)) x.toNatClampNeg (some ((XA X ad).ad v.1 v.2)) := by
                      funext j2
                      simp only [lkR, va_up]
                      split <;> rfl
                    have es : cellB (XA X ad) q (.inr (.inr (.inr (i2, z, (x.toNatClampNeg, v) :: w)))) = .inl ((XA X ad).kA i2, z, .inr (.inr (.inr (.inr (va_up (fun j => (lkR w j).map (fun q => (XA X ad).ad q.1 q.2)) x.toNatClampNeg (some ((XA X ad).ad v.1 v.2))))))) := by
                      rw [← ef]
                      rfl
                    rw [wsB_set es] at hP1 hD1
                    exact go hev hrest hP1 hD1 hS1 hl hcs hsl rf (keysub_set hat)
                · simp only [ev, hb1, hb2, if_neg hc] at hev
                  cases hev
              · simp [ev, hb1, hb2] at hev
              · simp [ev, hb1, hb2] at hev
              · simp [ev, hb1, hb2] at hev
      case newarray tt =>
        simp only [okEB, Bool.and_eq_true, beq_iff_eq, Bool.or_eq_true, decide_eq_true_eq] at hE
        obtain ⟨⟨rfl, hkt⟩, harr⟩ := hE
        rcases st with _ | ⟨x | x | q, t⟩
        · simp [ev] at hev
        · by_cases hc : (¬ x < 0 ∧ x.toNatClampNeg ≤ 1000 ∧ cs + 1 ≤ M ∧ sl + x.toNatClampNeg ≤ S) ∧ fresh (a, cntB h a) L t h = true
          · simp only [ev, if_pos hc] at hev
            obtain ⟨⟨hc1, hc2, hc3, hc4⟩, hc5⟩ := hc
            obtain ⟨f1, f2, f3⟩ := fresh_inv hc5
            rcases hkt with ⟨rfl, hty⟩ | ⟨rfl, hty⟩
            · refine va_newa (D := X.D) (ty := .int) hx hb (hts _ (inT_mem harr)) hty hK hP hD hS hA (a0 := (x.toNatClampNeg, .inl (lkI []))) (fun cA => rfl) hc1 rfl (by show x.toNatClampNeg * 4 ≤ 536870912; omega) (by omega) (by omega) hdec (fun z cA H1 hK1 hP1 hD1 hS1 => ?_)
              have hcA : cA = X.kA 0 := RA_uniq (hK1.2 6 (cA, .int) rfl).2 (hK.2 0 (X.kA 0, .int) rfl).2
              subst hcA
              rw [wsB_app (X := X) (ad := ad) (z := z) (q := (a, cntB h a)) (c := .inr (.inl (x.toNatClampNeg, []))) (e := .inl (X.kA 0, x.toNatClampNeg, .inl (lkI []))) f3 rfl] at hP1 hD1
              rw [if_pos rfl] at hev
              rw [stU X ad (a, cntB h a) z f2]
              exact go hev hrest hP1 hD1 hS1 (hl.freshU f1) hc3 hc4 (Agr.U f3) (keysub_app _ _)
            · refine va_newa (D := X.D) (ty := .long) hx hb (hts _ (inT_mem harr)) hty hK hP hD hS hA (a0 := (x.toNatClampNeg, .inr (.inl (fun _ => 0)))) (fun cA => rfl) hc1 rfl (by show x.toNatClampNeg * 8 ≤ 536870912; omega) (by omega) (by omega) hdec (fun z cA H1 hK1 hP1 hD1 hS1 => ?_)
              have hcA : cA = X.kA 1 := RA_uniq (hK1.2 6 (cA, .long) rfl).2 (hK.2 1 (X.kA 1, .long) rfl).2
              subst hcA
              rw [wsB_app (X := X) (ad := ad) (z := z) (q := (a, cntB h a)) (c := .inr (.inr (.inl x.toNatClampNeg))) (e := .inl (X.kA 1, x.toNatClampNeg, .inr (.inl (fun _ => 0)))) f3 rfl] at hP1 hD1
              rw [if_neg (by omega)] at hev
              rw [stU X ad (a, cntB h a) z f2]
              exact go hev hrest hP1 hD1 hS1 (hl.freshU f1) hc3 hc4 (Agr.U f3) (keysub_app _ _)
          · simp only [ev, if_neg hc] at hev
            cases hev
        · simp [ev] at hev
        · simp [ev] at hev
      case anewarray i =>
        simp only [okEB, Bool.and_eq_true, beq_iff_eq] at hE
        obtain ⟨rfl, hln⟩ := hE
        rcases st with _ | ⟨x | x | q, t⟩
        · simp [ev] at hev
        · by_cases hc : (¬ x < 0 ∧ x.toNatClampNeg ≤ 1000 ∧ cs + 1 ≤ M ∧ sl + x.toNatClampNeg ≤ S) ∧ fresh (a, cntB h a) L t h = true
          · simp only [ev, if_pos hc] at hev
            obtain ⟨⟨hc1, hc2, hc3, hc4⟩, hc5⟩ := hc
            obtain ⟨f1, f2, f3⟩ := fresh_inv hc5
            cases hek : ek k with
            | none => rw [hek] at hln; cases hln
            | some C =>
              rw [hek] at hln
              refine va_newq (D := X.D) (C := C.1) hx hb hown (hts _ (inT_mem hln)) (hAO.at hek) hK hP hD hS hA hc1 rfl (by omega) (by omega) (by omega) hdec (fun z cA H1 hK1 hP1 hD1 hS1 => ?_)
              have hcA : cA = X.kA k := RA_uniq (hK1.2 6 (cA, .object C.1) rfl).2 (hK.2 k (X.kA k, .object C.1) (ek_ty hek X)).2
              subst hcA
              rw [wsB_app (X := X) (ad := ad) (z := z) (q := (a, cntB h a)) (c := .inr (.inr (.inr (k, x.toNatClampNeg, [])))) (e := .inl (X.kA k, x.toNatClampNeg, .inr (.inr (.inr (.inr (fun _ => none)))))) f3 rfl] at hP1 hD1
              rw [stU X ad (a, cntB h a) z f2]
              exact go hev hrest hP1 hD1 hS1 (hl.freshU f1) hc3 hc4 (Agr.U f3) (keysub_app _ _)
          · simp only [ev, if_neg hc] at hev
            cases hev
        · simp [ev] at hev
        · simp [ev] at hev
      case new i =>
        simp only [okEB, Bool.and_eq_true, beq_iff_eq, decide_eq_true_eq] at hE
        obtain ⟨⟨rfl, ha9⟩, hln⟩ := hE
        by_cases hc : (cs + 1 ≤ M ∧ sl + NF a ≤ S) ∧ fresh (a, cntB h a) L st h = true
        · simp only [ev, if_pos hc] at hev
          obtain ⟨⟨hc3, hc4⟩, hc5⟩ := hc
          obtain ⟨f1, f2, f3⟩ := fresh_inv hc5
          cases hr : wCl[a]? with
          | none => rw [hr] at hln; cases hln
          | some w =>
            rw [hr] at hln
            have hdf := dfl_ok (XA X ad) hr
            obtain ⟨C, T, N⟩ := w
            have hN : N = NF a := wCl_nf hr ha9
            subst hN
            simp only [Bool.and_eq_true] at hln
            obtain ⟨⟨hl1, hl2⟩, hl3⟩ := hln
            refine va_new (D := X.D) (ci := a) (C := C) (T := T) (N := NF a) (fs := (dfl a).map (fvB (XA X ad))) hx hb hts (wCl_in _ (wCl_mem hr)) (tyf T) (wCl_ty _ (wCl_mem hr)) hown (hts _ (inT_mem hl1)) (hts _ (inT_mem hl2)) (hts _ (inT_mem hl3)) hK hP hD hS hA hr hdf (by omega) (by omega) hdec (fun z H1 hP1 hD1 hS1 => ?_)
            have hcd : cellB (XA X (adU ad (a, cntB h a) z)) (a, cntB h a) (.inl (dfl a)) = .inr (a, (dfl a).map (fvB (XA X ad))) := by
              show Sum.inr (a, _) = Sum.inr (a, _)
              refine congrArg (fun x => (Sum.inr (a, x) : va_E)) (List.map_congr_left fun o ho => fvU X ad _ z ?_)
              unfold dfl at ho
              rw [hr] at ho
              obtain ⟨j, -, rfl⟩ := List.mem_map.mp ho
              split <;> rfl
            rw [wsB_app (q := (a, cntB h a)) (c := .inl (dfl a)) f3 hcd] at hP1 hD1
            rw [stU X ad (a, cntB h a) z f2]
            exact go hev hrest hP1 hD1 hS1 (hl.freshU f1) hc3 hc4 (Agr.U f3) (keysub_app _ _)
        · simp only [ev, if_neg hc] at hev
          cases hev
      case invokespecial i =>
        simp only [okEB, Bool.and_eq_true, beq_iff_eq] at hE
        obtain ⟨rfl, hE⟩ := hE
        by_cases hk : k = 100
        · rw [if_pos hk] at hE
          simp only [Bool.and_eq_true] at hE
          obtain ⟨⟨hl1, hl2⟩, hl3⟩ := hE
          rcases st with _ | ⟨x | x | q, t⟩
          · simp [ev, hk] at hev
          · simp [ev, hk] at hev
          · simp [ev, hk] at hev
          · by_cases hct : cats t ≤ 8
            · simp only [ev, if_pos hk, if_pos hct] at hev
              have hrm := lv_room (m := m) (pc := pc) (ls := ls) (rest := ((.inr (.inr q) : MV) :: t).map (vv (XA X ad))) (st := t.map (vv (XA X ad))) (by rw [cats_eq]; exact hct)
              exact W.objInit (own := Y.2.1) hx hb hown (hts _ (inT_mem hl1)) (hts _ (inT_mem hl2)) (hts _ (inT_mem hl3)) rfl (hsz.trans hml.symm) rfl hdec (by omega) (by omega) (go hev hrest hP hD hS hl hcs hsl rf kr)
            · simp [ev, hk, hct] at hev
        · rw [if_neg hk] at hE
          cases d with
          | zero => simp [ev, hk] at hev
          | succ d =>
            cases hi : ini k with
            | none => simp [ev, hk, hi] at hev
            | some w =>
              obtain ⟨Y', M', S'⟩ := w
              cases hp : popB a st with
              | none => simp [ev, hk, hi, hp] at hev
              | some w2 =>
                obtain ⟨as, t0⟩ := w2
                rcases t0 with _ | ⟨x | x | q, t⟩
                · simp [ev, hk, hi, hp] at hev
                · simp [ev, hk, hi, hp] at hev
                · simp [ev, hk, hi, hp] at hev
                · cases hcal : ev ini n d M' S' Y' (esOf Y'.2.2 0) 0 (argL (.inr (.inr q) :: as) Y'.1.2.2.1) [] h 0 0 with
                  | none => simp [ev, hk, hi, hp, hcal] at hev
                  | some h1 =>
                    by_cases hc : (cats (.inr (.inr q) :: as) ≤ Y'.1.2.2.1 ∧ cats t ≤ 8 ∧ cs + M' ≤ M ∧ sl + S' ≤ S ∧ 1 < Y'.2.2.length) ∧ (L.all (inKO h) && t.all (inKV h) && keysub h h1) = true
                    · simp only [ev, if_neg hk, hi, hp, hcal, if_pos hc] at hev
                      obtain ⟨⟨hca, hct, hcM, hcS, hlen⟩, hck⟩ := hc
                      simp only [Bool.and_eq_true] at hck
                      obtain ⟨⟨hkL, hkt⟩, hks⟩ := hck
                      rw [hi] at hE
                      simp only [Bool.and_eq_true, decide_eq_true_eq] at hE
                      obtain ⟨⟨⟨⟨⟨⟨⟨⟨hl1, hl2⟩, hl4⟩, hl5⟩, hrt⟩, hmx⟩, hyn⟩, hnm2⟩, hpl⟩ := hE
                      obtain ⟨has, rfl⟩ := popB_inv a st as _ hp
                      have hMet := met_of ih (hini k _ hi) hlen hcal hca X ad H.size (l := l)
                      have hG : GoodIn tg (wsG Y'.1) := by
                        intro w hw
                        rcases List.mem_cons.mp hw with rfl | hw
                        · exact tg_goodIn2 _ (inT_mem hl5)
                        · exact tg_goodIn2 w hw
                      have hps : PreS s H (PcB X ad (.inr (.inr q) :: as) h H.size) (.ref ((XA X ad).ad q.1 q.2) :: as.map (vv (XA X ad))) := ⟨fun a1 U g1 mk q1 => ⟨q1.1, q1.2.1, q1.2.2.1, q1.2.2.2.1, va_K.moved (u := U) (U := U.calling g1 mk a1) (Vm.Alike.refl U.vm) q1.2.2.2.2.1, NW.same (u := U) (U := U.calling g1 mk a1) rfl q1.2.2.2.2.2.1, AOS.moved (u := U) (U := U.calling g1 mk a1) (Vm.Alike.refl U.vm) q1.2.2.2.2.2.2⟩, fun U hU hW => ⟨rfl, by rw [hU], by rw [hU]; exact hP, hD.weaken (fun _ _ _ _ => trivial), va_K.moved hW.alike hK, NW.warm hW hNW, hAO.moved hW.alike⟩⟩
                      have hrm : (rmB (d + 1) M' S').frames + 1 ≤ R.frames ∧ 8 + (Y'.1.2.2.1 + 11) + (rmB (d + 1) M' S').locals ≤ R.locals := ⟨by simp only [rmB]; omega, by simp only [rmB]; omega⟩
                      have hw : wsG Y'.1 = Cond.code Y'.1.1 Y'.1.2.1 Y'.1.2.2.1 none :: tg := by unfold wsG; rw [hrt]
                      have fin : ∀ (ad' : Nat → Nat → Nat) (H1 : Heap) (locs1 : List Loc), Agr ad ad' h → va_P X.D wCl (wsB (XA X ad') h1) H1 → va_D A (wsB (XA X ad') h1) → va_S A s.heap H1 locs1 → W p l e R s m args below meth c H1 locs1 (cs + M') (sl + S') G (F0 m (pc + 3) ls (t.map (vv (XA X ad)))) := by
                        intro ad' H1 locs1 hag hP1 hD1 hS1
                        rw [← List.map_congr_left fun v hv => hag.vv (X := X) (List.all_eq_true.mp hkt v hv)]
                        exact go hev hrest hP1 hD1 hS1 (hl.conv fun v hv => hag.vv (X := X) (List.all_eq_true.mp hkL (some v) hv)) hcM hcS hag hks
                      have hstk : (as.reverse ++ (.inr (.inr q) : MV) :: t).map (vv (XA X ad)) = (as.map (vv (XA X ad))).reverse ++ .ref ((XA X ad).ad q.1 q.2) :: t.map (vv (XA X ad)) := by
                        rw [List.map_append, List.map_reverse]; rfl
                      by_cases hx1 : xs.getD 1 0 = 1
                      · rw [if_pos hx1] at hl1
                        exact callB_W (va_runIN (As := as.map (vv (XA X ad))) (b := (XA X ad).ad q.1 q.2) (rest := t.map (vv (XA X ad))) ⟨hx, hb, hml, hown, hts⟩ hMet (n := a) ⟨va_cnB a hts hG hw rfl rfl (hNW _ (inN_mem hl1)) (hts _ (inT_mem hl4)) ⟨hnm2.1, hnm2.2, hpl⟩ hrm, hyn, hts _ (inT_mem hl2)⟩ hps rfl (by simpa using has) hsz hstk (lv_room (by rw [cats_eq]; exact hct)) hdec ⟨by omega, by omega⟩) hD hS hA fin
                      · rw [if_neg hx1] at hl1
                        exact callB_W (va_runI (As := as.map (vv (XA X ad))) (b := (XA X ad).ad q.1 q.2) (rest := t.map (vv (XA X ad))) ⟨hx, hb, hml, hown, hts⟩ hMet (n := a) ⟨callB_of a hts hG hw rfl rfl (hts _ (inT_mem hl4)) (hts _ (inT_mem hl1)) ⟨hnm2.1, hnm2.2, hpl⟩ hrm, hyn, hts _ (inT_mem hl2)⟩ hps rfl (by simpa using has) hsz hstk (lv_room (by rw [cats_eq]; exact hct)) hdec ⟨by omega, by omega⟩) hD hS hA fin
                    · simp only [ev, if_neg hk, hi, hp, hcal, if_neg hc] at hev
                      cases hev
      case invokestatic i =>
        simp only [okEB, Bool.and_eq_true, beq_iff_eq] at hE
        obtain ⟨rfl, hE⟩ := hE
        by_cases hk : k = 4
        · rw [if_pos hk] at hE
          simp only [Bool.and_eq_true] at hE
          obtain ⟨⟨⟨hl1, hl2⟩, hl3⟩, hl4⟩ := hE
          rcases st with _ | ⟨y | y | q, _ | ⟨x | x | q, t⟩⟩
          all_goals first | (simp [ev, hk] at hev; done) | skip
          by_cases hct : cats t ≤ 8
          · simp only [ev, if_pos hk, if_pos hct] at hev
            exact va_mmax hx hb (hml.trans hsz.symm) hown (hts _ (inT_mem hl1)) (hts _ (inT_mem hl2)) (hts _ (inT_mem hl3)) (hts _ (inT_mem hl4)) (by omega) (by rw [cats_eq]; omega) (by omega) (by omega) hdec (go (st' := .inl (if x < y then y else x) :: t) hev hrest hP hD hS hl hcs hsl rf kr)
          · simp [ev, hk, hct] at hev
        · rw [if_neg hk] at hE
          cases d with
          | zero => simp [ev, hk] at hev
          | succ d =>
            cases hi : ini k with
            | none => simp [ev, hk, hi] at hev
            | some w =>
              obtain ⟨Y', M', S'⟩ := w
              cases hp : popB a st with
              | none => simp [ev, hk, hi, hp] at hev
              | some w2 =>
                obtain ⟨as, t⟩ := w2
                cases hcal : ev ini n d M' S' Y' (esOf Y'.2.2 0) 0 (argL as Y'.1.2.2.1) [] h 0 0 with
                | none => simp [ev, hk, hi, hp, hcal] at hev
                | some h1 =>
                  by_cases hc : (cats as ≤ Y'.1.2.2.1 ∧ cats t ≤ 8 ∧ cs + M' ≤ M ∧ sl + S' ≤ S ∧ 1 < Y'.2.2.length) ∧ (L.all (inKO h) && t.all (inKV h) && keysub h h1) = true
                  · simp only [ev, if_neg hk, hi, hp, hcal, if_pos hc] at hev
                    obtain ⟨⟨hca, hct, hcM, hcS, hlen⟩, hck⟩ := hc
                    simp only [Bool.and_eq_true] at hck
                    obtain ⟨⟨hkL, hkt⟩, hks⟩ := hck
                    rw [hi] at hE
                    simp only [Bool.and_eq_true, decide_eq_true_eq] at hE
                    obtain ⟨⟨⟨⟨⟨⟨⟨hl1, hl2⟩, hl4⟩, hl5⟩, hrt⟩, hmx⟩, hnm2⟩, hpl⟩ := hE
                    obtain ⟨has, rfl⟩ := popB_inv a st as _ hp
                    have hMet := met_of ih (hini k _ hi) hlen hcal hca X ad H.size (l := l)
                    have hG : GoodIn tg (wsG Y'.1) := by
                      intro w hw
                      rcases List.mem_cons.mp hw with rfl | hw
                      · exact tg_goodIn2 _ (inT_mem hl5)
                      · exact tg_goodIn2 w hw
                    have hps : PreS s H (PcB X ad as h H.size) (as.map (vv (XA X ad))) := ⟨fun a1 U g1 mk q1 => ⟨q1.1, q1.2.1, q1.2.2.1, q1.2.2.2.1, va_K.moved (u := U) (U := U.calling g1 mk a1) (Vm.Alike.refl U.vm) q1.2.2.2.2.1, NW.same (u := U) (U := U.calling g1 mk a1) rfl q1.2.2.2.2.2.1, AOS.moved (u := U) (U := U.calling g1 mk a1) (Vm.Alike.refl U.vm) q1.2.2.2.2.2.2⟩, fun U hU hW => ⟨rfl, by rw [hU], by rw [hU]; exact hP, hD.weaken (fun _ _ _ _ => trivial), va_K.moved hW.alike hK, NW.warm hW hNW, hAO.moved hW.alike⟩⟩
                    have hrm : (rmB (d + 1) M' S').frames + 1 ≤ R.frames ∧ 8 + (Y'.1.2.2.1 + 11) + (rmB (d + 1) M' S').locals ≤ R.locals := ⟨by simp only [rmB]; omega, by simp only [rmB]; omega⟩
                    have fin : ∀ (ad' : Nat → Nat → Nat) (H1 : Heap) (locs1 : List Loc), Agr ad ad' h → va_P X.D wCl (wsB (XA X ad') h1) H1 → va_D A (wsB (XA X ad') h1) → va_S A s.heap H1 locs1 → W p l e R s m args below meth c H1 locs1 (cs + M') (sl + S') G (F0 m (pc + 3) ls (t.map (vv (XA X ad)))) := by
                      intro ad' H1 locs1 hag hP1 hD1 hS1
                      rw [← List.map_congr_left fun v hv => hag.vv (X := X) (List.all_eq_true.mp hkt v hv)]
                      exact go hev hrest hP1 hD1 hS1 (hl.conv fun v hv => hag.vv (X := X) (List.all_eq_true.mp hkL (some v) hv)) hcM hcS hag hks
                    have hstk : (as.reverse ++ t).map (vv (XA X ad)) = (as.map (vv (XA X ad))).reverse ++ t.map (vv (XA X ad)) := by
                      rw [List.map_append, List.map_reverse]
                    exact callB_W (va_runS (As := as.map (vv (XA X ad))) (rest := t.map (vv (XA X ad))) ⟨hx, hb, hml, hown, hts⟩ hMet (n := a) ⟨callB_of a hts hG rfl rfl rfl (hts _ (inT_mem hl4)) (hts _ (inT_mem hl1)) ⟨hnm2.1, hnm2.2, hpl⟩ hrm, hts _ (inT_mem hl2)⟩ hps rfl (by simpa using has) hsz hstk (lv_room (by rw [cats_eq]; exact hct)) hdec ⟨by omega, by omega⟩) hD hS hA fin
                  · simp only [ev, if_neg hk, hi, hp, hcal, if_neg hc] at hev
                    cases hev
      case return_ =>
        have hlen : len = 1 := by simpa [okEB] using hE
        subst hlen
        rcases st with _ | ⟨v, t⟩
        · simp only [ev, List.length_nil, if_true] at hev
          cases hev
          exact W.widen hcs hsl (hret ad H locs ls pc rf hP hD hS hdec)
        · simp [ev] at hev
      all_goals simp [ev] at hev
