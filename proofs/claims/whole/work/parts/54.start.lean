theorem wCl_inst : ∀ r ∈ wCl, Cond.instantiable r.1 r.2.2 ∈ lw_tbl := by decide +kernel
def tyK (k : Nat) : Option FieldType := match k with
  | 0 => some .int
  | 1 => some .long
  | 2 => some (.object RX)
  | 3 => some (.object RP)
  | 4 => some (.object RR)
  | 5 => some (.object RB)
  | _ => none
theorem dfl_map (X X' : WX) (a : Nat) : (dfl a).map (fvB X) = (dfl a).map (fvB X') := by
  refine List.map_congr_left fun o ho => ?_
  unfold dfl at ho
  split at ho
  · obtain ⟨j, -, rfl⟩ := List.mem_map.mp ho
    split <;> rfl
  · cases ho
theorem mem_ao : Cond.arrayOver (.object RX) ∈ lw_tbl ∧ Cond.arrayOver (.object RP) ∈ lw_tbl ∧ Cond.arrayOver (.object RR) ∈ lw_tbl ∧ Cond.arrayOver (.object RB) ∈ lw_tbl ∧ Cond.arrayClass .int ∈ lw_tbl ∧ Cond.arrayClass .long ∈ lw_tbl := by decide +kernel
theorem mem_W : Cond.code Y_W_init.1.1 Y_W_init.1.2.1 Y_W_init.1.2.2.1 none ∈ tg ∧ Cond.methodLink R_law 9 Y_W_init.1.1 ∈ tg ∧ Cond.instanceMethod Y_W_init.1.1 ∈ tg ∧ Cond.initialized RW ∈ tg ∧ Cond.classLink R_law 7 RW ∈ tg ∧ Cond.instantiable RW 13 ∈ tg := by decide +kernel
theorem mem_M : Cond.code Y_M_init.1.1 Y_M_init.1.2.1 Y_M_init.1.2.2.1 none ∈ tg ∧ Cond.methodLink R_law 12 Y_M_init.1.1 ∈ tg ∧ Cond.instanceMethod Y_M_init.1.1 ∈ tg ∧ Cond.initialized RM ∈ tg ∧ Cond.classLink R_law 10 RM ∈ tg ∧ Cond.instantiable RM 28 ∈ tg := by decide +kernel
theorem nst_args : ∀ w ∈ nst, ∀ (a a' : Array Value) (U : State), w.before a U = true → w.before a' U = true := by
  intro w hw a a' U h
  have hn := (List.mem_filter.mp hw).2
  cases w <;> first | exact h | cases hn
section LAW4
variable {p : Program} {l : Launch} {e : Env} {s : State} {m : MethodId} {args : Array Value} {below : List Frame} {meth : Method} {c : Code} {X : WX} {cells slots : Nat} {G : State → Prop} {A : Nat → Prop}
/-- a constructor, called from the law -/
theorem law_init (hx : p.tables.exec = Jvm.exec) (hb : c.code = code) (hml : c.maxLocals = 4) (hown : s.vm.findClass R_law = some m.cls) (hts : ∀ w ∈ tg, w.before args s = true) (hK : va_K X.D wCl (tyx X) s) (hNW : NW s) (hAO : AOS s) (hA : ∀ q, s.heap.size ≤ q → A q)
    {n d M S i pc : Nat} {Y : Mth} {h h1 : BH} {q : Nat × Nat} {ad : Nat → Nat → Nat} {H : Heap} {locs : List Loc} {ls : Array Slot} {rest : List Value} (hok : okMB inI Y = true) (hlen : 1 < Y.2.2.length) (hev : ev inI n d M S Y (esOf Y.2.2 0) 0 (argL [.inr (.inr q)] Y.1.2.2.1) [] h 0 0 = some h1) (hca : 1 ≤ Y.1.2.2.1)
    (hcd : Cond.code Y.1.1 Y.1.2.1 Y.1.2.2.1 none ∈ tg) (hli : Cond.methodLink R_law i Y.1.1 ∈ tg) (hin : Cond.instanceMethod Y.1.1 ∈ tg) (hini : Cond.initialized Y.1.1.cls ∈ tg) (hyn : Y.1.1.name = "<init>") (hnm2 : Y.1.1.cls ≠ "java/lang/invoke/MethodHandle" ∧ Y.1.1.cls ≠ "java/lang/invoke/VarHandle") (hpl : (parseMethodDescriptor Y.1.1.desc).map (fun d => d.parameters.length) = some 0) (hrt : Y.1.2.2.2 = none) (hmx : Y.1.2.2.1 ≤ 20) (hd : d ≤ 10)
    (hdec : decode code pc = .ok (.invokespecial i, 3)) (hcs : cells + M ≤ 600000) (hsl : slots + S ≤ 7302250) (hrest : (rest.map fun v => v.category).sum ≤ 8)
    (hP : va_P X.D wCl (wsB (XA X ad) h) H) (hD : va_D A (wsB (XA X ad) h)) (hS : va_S A s.heap H locs) (hsz : ls.size = 4)
    (kk : ∀ (ad' : Nat → Nat → Nat) (H1 : Heap) (locs1 : List Loc), Agr ad ad' h → va_P X.D wCl (wsB (XA X ad') h1) H1 → va_D A (wsB (XA X ad') h1) → va_S A s.heap H1 locs1 → W p l e room_1 s m args below meth c H1 locs1 (cells + M) (slots + S) G (F0 m (pc + 3) ls rest)) : W p l e room_1 s m args below meth c H locs cells slots G (F0 m pc ls (.ref (ad q.1 q.2) :: rest)) := by
  have hMet := met_of (ev_ok inI_ok l n) hok hlen hev (show cats [.inr (.inr q)] ≤ Y.1.2.2.1 from hca) X ad H.size
  have hw : wsG Y.1 = Cond.code Y.1.1 Y.1.2.1 Y.1.2.2.1 none :: tg := by unfold wsG; rw [hrt]
  have hG : GoodIn tg (wsG Y.1) := by
    rw [hw]
    intro w hw
    rcases List.mem_cons.mp hw with rfl | hw
    · exact tg_goodIn2 _ hcd
    · exact tg_goodIn2 w hw
  have hps : PreS s H (PcB X ad [.inr (.inr q)] h H.size) (.ref (ad q.1 q.2) :: []) := ⟨fun a1 U g1 mk q1 => ⟨q1.1, q1.2.1, q1.2.2.1, q1.2.2.2.1, va_K.moved (u := U) (U := U.calling g1 mk a1) (Vm.Alike.refl U.vm) q1.2.2.2.2.1, NW.same (u := U) (U := U.calling g1 mk a1) rfl q1.2.2.2.2.2.1, AOS.moved (u := U) (U := U.calling g1 mk a1) (Vm.Alike.refl U.vm) q1.2.2.2.2.2.2⟩, fun U hU hW => ⟨rfl, by rw [hU], by rw [hU]; exact hP, hD.weaken (fun _ _ _ _ => trivial), va_K.moved hW.alike hK, NW.warm hW hNW, hAO.moved hW.alike⟩⟩
  exact callB_W (va_runI (As := []) (b := ad q.1 q.2) (rest := rest) ⟨hx, hb, hml, hown, hts⟩ hMet (n := 0) ⟨callB_of 0 hts hG hw rfl rfl (hts _ hini) (hts _ hli) ⟨hnm2.1, hnm2.2, hpl⟩ ⟨by show d + 1 + 1 ≤ 2048; omega, by show 8 + (Y.1.2.2.1 + 11) + 40 * (d + 1) ≤ 84000; omega⟩, hyn, hts _ hin⟩ hps rfl rfl hsz rfl (lv_room hrest) hdec ⟨by show cells + M ≤ 600000; omega, by show slots + S ≤ 7302250; omega⟩) hD hS hA kk
/-- a new object, made by the law -/
theorem law_new (hx : p.tables.exec = Jvm.exec) (hb : c.code = code) (hown : s.vm.findClass R_law = some m.cls) (hts : ∀ w ∈ tg, w.before args s = true) (hK : va_K X.D wCl (tyx X) s) (hA : ∀ q, s.heap.size ≤ q → A q)
    {a i pc : Nat} {C : String} {T : u_T} {h : BH} {ad : Nat → Nat → Nat} {H : Heap} {locs : List Loc} {ls : Array Slot} {rest : List Value} (hr : wCl[a]? = some (C, T, NF a)) (hcl : Cond.classLink R_law i C ∈ tg) (hins : Cond.instantiable C (NF a) ∈ tg) (hini : Cond.initialized C ∈ tg) (hf : h.all (fun e => decide (e.1 ≠ (a, 0)) && nrC (a, 0) e.2) = true)
    (hdec : decode code pc = .ok (.new i, 3)) (hcs : cells + 1 ≤ 600000) (hsl : slots + NF a ≤ 7302250)
    (hP : va_P X.D wCl (wsB (XA X ad) h) H) (hD : va_D A (wsB (XA X ad) h)) (hS : va_S A s.heap H locs)
    (kk : ∀ (z : Nat) (H1 : Heap), va_P X.D wCl (wsB (XA X (adU ad (a, 0) z)) (h ++ [((a, 0), .inl (dfl a))])) H1 → va_D A (wsB (XA X (adU ad (a, 0) z)) (h ++ [((a, 0), .inl (dfl a))])) → va_S A s.heap H1 locs → W p l e room_1 s m args below meth c H1 locs (cells + 1) (slots + NF a) G (F0 m (pc + 3) ls (.ref z :: rest))) : W p l e room_1 s m args below meth c H locs cells slots G (F0 m pc ls rest) := by
  refine va_new (D := X.D) (ci := a) (C := C) (T := T) (N := NF a) (fs := (dfl a).map (fvB (XA X ad))) hx hb hts (wCl_in _ (wCl_mem hr)) (tyf T) (wCl_ty _ (wCl_mem hr)) hown (hts _ hcl) (hts _ hins) (hts _ hini) hK hP hD hS hA hr (dfl_ok (XA X ad) hr) hcs hsl hdec (fun z H1 hP1 hD1 hS1 => ?_)
  have hcd : cellB (XA X (adU ad (a, 0) z)) (a, 0) (.inl (dfl a)) = .inr (a, (dfl a).map (fvB (XA X ad))) := congrArg (fun x => (Sum.inr (a, x) : va_E)) (dfl_map _ _ a)
  rw [wsB_app (q := (a, 0)) (c := .inl (dfl a)) hf hcd] at hP1 hD1
  exact kk z H1 hP1 hD1 hS1
end LAW4
set_option maxHeartbeats 4000000 in
set_option maxRecDepth 100000 in
theorem whole_start {p : Program} {e : Env} {s : State} {m : MethodId} {below : List Frame} {meth : Method} {c : Code} (l : Launch) {b L : Nat} {xs : Nat → Int32} (hL : L ≤ 384) (C0 : lw_At p s m meth c b L xs) : W p l e room_1 s m #[Value.ref b] below meth c s.heap [] 0 0 (lw_Z below #[Value.ref b] s) (entryFrame m ([Value.ref b] : List Value).toArray 4) := by
  obtain ⟨hx, hb, hr, hml, hown, hts0, hX, hbl, hlocks, hgv⟩ := id C0
  have hts : ∀ w ∈ tg, w.before #[Value.ref b] s = true := fun w hw => hts0 w (tg_of hw)
  have hKn : ∀ k : Nat, ∃ (cC : ClassId) (iS : Nat → Nat), ∀ q : vw_C, wCl[k]? = some q → u_Kn s q.1 q.2.1 q.2.2 cC iS := by
    intro k
    cases hq : wCl[k]? with
    | none => exact ⟨m.cls, fun _ => 0, fun q h => by cases h⟩
    | some q =>
      obtain ⟨c1, i1, h1⟩ := u_known (C := q.1) (T := q.2.1) (N := q.2.2) (n := q.2.2) hts0 (wCl_in0 q (wCl_mem hq)) (hts0 _ (wCl_inst q (wCl_mem hq)))
      exact ⟨c1, i1, fun q' h => by cases h; exact h1⟩
  obtain ⟨dC, dI, hKc⟩ : ∃ (dC : Nat → ClassId) (dI : Nat → Nat → Nat), ∀ (k : Nat) (q : vw_C), wCl[k]? = some q → u_Kn s q.1 q.2.1 q.2.2 (dC k) (dI k) := ⟨fun k => (hKn k).choose, fun k => (hKn k).choose_spec.choose, fun k q hq => (hKn k).choose_spec.choose_spec q hq⟩
  have hAOS : AOS s := ⟨va_AO.of (hts0 _ mem_ao.1), va_AO.of (hts0 _ mem_ao.2.1), va_AO.of (hts0 _ mem_ao.2.2.1), va_AO.of (hts0 _ mem_ao.2.2.2.1)⟩
  have hob : ∀ C : String, va_AO C s → ∃ cA : ClassId, ArrOfT s cA (.object C) ∧ va_RA s cA (.object C) := by
    intro C hC
    obtain ⟨comp, cA, kA, h1, -, h3, h4, h5⟩ := Cond.arrayOver_spec hC
    exact ⟨cA, fun n z => ⟨fun k h => (by cases h), kA, h3, comp, h4⟩, kA, comp, h3, h4, h1, h5⟩
  have hAr : ∀ k : Nat, ∃ cA : ClassId, ∀ ty, tyK k = some ty → ArrOfT s cA ty ∧ va_RA s cA ty := by
    intro k
    match k with
    | 0 =>
      obtain ⟨cA, kA, comp, h1, h2, h3⟩ := Cond.arrayClass_spec (hts0 _ mem_ao.2.2.2.2.1)
      exact ⟨cA, fun ty h => by cases h; exact ⟨fun n z => ⟨fun k h => (by cases h), kA, h2, comp, h3⟩, h1⟩⟩
    | 1 =>
      obtain ⟨cA, kA, comp, h1, h2, h3⟩ := Cond.arrayClass_spec (hts0 _ mem_ao.2.2.2.2.2)
      exact ⟨cA, fun ty h => by cases h; exact ⟨fun n z => ⟨fun k h => (by cases h), kA, h2, comp, h3⟩, h1⟩⟩
    | 2 => obtain ⟨cA, h⟩ := hob RX hAOS.1; exact ⟨cA, fun ty e => by cases e; exact h⟩
    | 3 => obtain ⟨cA, h⟩ := hob RP hAOS.2.1; exact ⟨cA, fun ty e => by cases e; exact h⟩
    | 4 => obtain ⟨cA, h⟩ := hob RR hAOS.2.2.1; exact ⟨cA, fun ty e => by cases e; exact h⟩
    | 5 => obtain ⟨cA, h⟩ := hob RB hAOS.2.2.2; exact ⟨cA, fun ty e => by cases e; exact h⟩
    | k + 6 => exact ⟨m.cls, fun ty h => by cases h⟩
  obtain ⟨kA, hkA⟩ : ∃ kA : Nat → ClassId, ∀ (k : Nat) (ty : FieldType), tyK k = some ty → ArrOfT s (kA k) ty ∧ va_RA s (kA k) ty := ⟨fun k => (hAr k).choose, fun k ty h => (hAr k).choose_spec ty h⟩
  obtain ⟨X, hXe⟩ : ∃ X : WX, X = (dC, dI, kA, fun _ _ => 0) := ⟨_, rfl⟩
  have hK : va_K X.D wCl (tyx X) s := by
    subst hXe
    refine ⟨hKc, fun k q hq => ?_⟩
    match k, hq with
    | 0, hq => cases hq; exact hkA 0 _ rfl
    | 1, hq => cases hq; exact hkA 1 _ rfl
    | 2, hq => cases hq; exact hkA 2 _ rfl
    | 3, hq => cases hq; exact hkA 3 _ rfl
    | 4, hq => cases hq; exact hkA 4 _ rfl
    | 5, hq => cases hq; exact hkA 5 _ rfl
    | k + 6, hq => simp [tyx] at hq
  have hNW : NW s := fun w hw => nst_args w hw _ _ _ (hts0 w (List.mem_filter.mp hw).1)
  clear hXe hkA hAr hob hKc hKn
  have hA : ∀ q : Nat, s.heap.size ≤ q → (fun q : Nat => s.heap.size ≤ q) q := fun _ h => h
  have hS : va_S (fun q : Nat => s.heap.size ≤ q) s.heap s.heap [] := va_S.rf
  have hP : va_P X.D wCl (wsB (XA X (fun _ _ => 0)) []) s.heap := fun k q h => by simp [wsB] at h
  have hD : va_D (fun q : Nat => s.heap.size ≤ q) (wsB (XA X (fun _ _ => 0)) []) := ⟨fun i j p q h => by simp [wsB] at h, fun k q h => by simp [wsB] at h⟩
  have hl := lv_entry ([.ref b]) (n := 4) (Nat.le_of_ble_eq_true rfl)
  rw [lg_entry_eq]
  generalize (lg_sl ([.ref b]) ++ List.replicate (4 - (lg_sl ([.ref b])).length) Slot.unset).toArray = ls at hl ⊢
  have hl : lv_has ls 4 [(0, .ref b)] := hl
  have hkey := h1_key
  simp only [keyB, Bool.and_eq_true] at hkey
  -- the class's object
  refine law_new (a := 7) (C := RW) (T := TW) hx hb hown hts hK hA rfl mem_W.2.2.2.2.1 mem_W.2.2.2.2.2 mem_W.2.2.2.1 (h := []) rfl dl_0 (by omega) (by decide) hP hD hS (fun z H1 hP1 hD1 hS1 => ?_)
  obtain ⟨ad1, hz1, hQ1, hE1⟩ : ∃ ad1 : Nat → Nat → Nat, ad1 7 0 = z ∧ va_P X.D wCl (wsB (XA X ad1) h0) H1 ∧ va_D (fun q : Nat => s.heap.size ≤ q) (wsB (XA X ad1) h0) := ⟨_, adU_q _ (7, 0) z, hP1, hD1⟩
  subst hz1
  refine lv_dup hx hb dl_3 rfl ?_
  refine law_init (q := (7, 0)) hx hb hml hown hts hK hNW hAOS hA okI_W_init (by decide) evW (by decide) mem_W.1 mem_W.2.1 mem_W.2.2.1 mem_W.2.2.2.1 (by decide) (by decide) (by decide +kernel) rfl (by decide) (by omega) dl_4 (by decide) (by decide) (Nat.le_of_ble_eq_true rfl) hQ1 hE1 hS1 hl.1 (fun ad2 H2 locs2 hag hP2 hD2 hS2 => ?_)
  have hz2 : ad2 7 0 = ad1 7 0 := hag ((7, 0), .inl (dfl 7)) List.mem_cons_self
  rw [← hz2]
  clear hP1 hD1 hQ1 hE1 hS1 hag hz2
  refine lv_astore_n (lv' := [(1, .ref (ad2 7 0)), (0, .ref b)]) hx hb dl_7 rfl hl (by decide) rfl (fun ls hl => ?_)
  -- the reference's
  refine law_new (a := 8) (C := RM) (T := TM) hx hb hown hts hK hA rfl mem_M.2.2.2.2.1 mem_M.2.2.2.2.2 mem_M.2.2.2.1 hkey.1 dl_8 (by decide) (by decide) hP2 hD2 hS2 (fun z H3 hP3 hD3 hS3 => ?_)
  obtain ⟨ad3, hz3, hz4, hQ3, hE3⟩ : ∃ ad3 : Nat → Nat → Nat, ad3 8 0 = z ∧ ad3 7 0 = ad2 7 0 ∧ va_P X.D wCl (wsB (XA X ad3) h2) H3 ∧ va_D (fun q : Nat => s.heap.size ≤ q) (wsB (XA X ad3) h2) := ⟨_, adU_q _ (8, 0) z, adU_n (q := (8, 0)) (p := (7, 0)) ad2 z (by decide), hP3, hD3⟩
  subst hz3
  rw [← hz4] at hl
  refine lv_dup hx hb dl_11 rfl ?_
  refine law_init (q := (8, 0)) hx hb hml hown hts hK hNW hAOS hA okI_M_init (by decide) evM (by decide) mem_M.1 mem_M.2.1 mem_M.2.2.1 mem_M.2.2.2.1 (by decide) (by decide) (by decide +kernel) rfl (by decide) (by omega) dl_12 (by decide) (by decide) (Nat.le_of_ble_eq_true rfl) hQ3 hE3 hS3 hl.1 (fun ad4 H4 locs4 hag hP4 hD4 hS4 => ?_)
  have hz5 : ad4 8 0 = ad3 8 0 := hag ((8, 0), .inl (dfl 8)) (List.mem_append_right _ List.mem_cons_self)
  have hz6 : ad4 7 0 = ad3 7 0 := by
    obtain ⟨e1, he1, hp1⟩ := List.any_eq_true.mp hkey.2
    have hp1 := of_decide_eq_true hp1
    have := hag e1 (List.mem_append_left _ he1)
    rw [hp1] at this
    exact this
  rw [← hz5]
  rw [← hz6] at hl
  refine lv_astore_n (lv' := [(2, .ref (ad4 8 0)), (1, .ref (ad4 7 0)), (0, .ref b)]) hx hb dl_15 rfl hl (by decide) rfl (fun ls hl => ?_)
  refine lv_iconst (v := nI 0) hx hb dl_16 (by decide) ?_
  refine lv_istore_n (lv' := [(3, .int (nI 0)), (2, .ref (ad4 8 0)), (1, .ref (ad4 7 0)), (0, .ref b)]) hx hb dl_17 rfl hl (by decide) rfl (fun ls hl => ?_)
  have hAX := world_A (X := XA X ad4) h3_ok hD4
  refine va_forget (fun q hq => hS4.2.2 q hq) ?_
  exact law_loop (X := XA X ad4) ⟨C0, hL, hK, world_I h3_ok hD4, hNW, hAX, by decide, by decide⟩ (L + 1) 0 (memB h3) H4 [] ls (by omega) (by omega) (start_inv facts_ok) (world_P (X := XA X ad4) h3_ok hP4) ⟨hS4.1, fun q h1 _ => hS4.2.1 q h1 (fun z => absurd h1 (Nat.not_lt.mpr z)), fun _ h => by cases h⟩ (lv_sub hl [0, 3, 2, 1] rfl)
