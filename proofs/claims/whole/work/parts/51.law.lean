def dA (pc j : Nat) : Bool := decide (decode code pc = .ok (.aload_n 0, 1)) && decide (decode code (pc + 1) = .ok (.iload_n 3, 1)) && decide (decode code (pc + 2) = .ok (.iconst (j : Int), 1)) && decide (decode code (pc + 3) = .ok (.iadd, 1)) && decide (decode code (pc + 4) = .ok (.iaload, 1))
def dAs (pc : Nat) : Nat → Bool
  | 0 => true
  | n + 1 => dAs pc n && dA (pc + 5 * n) (n + 1)
def okCL (pc i : Nat) (xs : List Nat) (k n : Nat) (g : Sg) : Bool := decide (decode code pc = .ok (.invokevirtual i, 3)) && decide (k < 9) && (match wCl[k]? with
    | some r => decide (g.1.cls = r.1)
    | none => false) && inT (xs.getD 0 0) (.methodLink R_law i g.1) && inT (xs.getD 1 0) (.instanceMethod g.1) && inT (xs.getD 2 0) (.selects g.1.cls g.1 g.1) && inT (xs.getD 3 0) (.initialized g.1.cls) && inT (xs.getD 4 0) (.code g.1 g.2.1 g.2.2.1 g.2.2.2) && decide (g.2.2.1 ≤ 20) && decide (g.1.cls ≠ "java/lang/invoke/MethodHandle" ∧ g.1.cls ≠ "java/lang/invoke/VarHandle") && decide ((parseMethodDescriptor g.1.desc).map (fun d => d.parameters.length) = some n)
def okCase (pc n iw : Nat) (xw : List Nat) (gw : Sg) (im : Nat) (xm : List Nat) (gm : Sg) (o : Int) (lg : Bool) : Bool :=
  decide (decode code pc = .ok (.aload_n 1, 1)) && dAs (pc + 1) n && okCL (pc + 1 + 5 * n) iw xw 7 n gw && decide (decode code (pc + 1 + 5 * n + 3) = .ok (.aload_n 2, 1)) && dAs (pc + 1 + 5 * n + 3 + 1) n && okCL (pc + 1 + 5 * n + 3 + 1 + 5 * n) im xm 8 n gm && (if lg = true then decide (decode code (pc + 1 + 5 * n + 3 + 1 + 5 * n + 3) = .ok (.lcmp, 1)) && decide (decode code (pc + 1 + 5 * n + 3 + 1 + 5 * n + 3 + 1) = .ok (.ifCond .eq o, 3)) && decide (((pc + 1 + 5 * n + 3 + 1 + 5 * n + 3 + 1 : Nat) : Int) + o = ((1188 : Nat) : Int)) else decide (decode code (pc + 1 + 5 * n + 3 + 1 + 5 * n + 3) = .ok (.if_icmp .eq o, 3)) && decide (((pc + 1 + 5 * n + 3 + 1 + 5 * n + 3 : Nat) : Int) + o = ((1188 : Nat) : Int)))
def LC (p : Program) (s : State) (m : MethodId) (meth : Method) (c : Code) (b Ln : Nat) (xs : Nat → Int32) (X : WX) (cells slots : Nat) : Prop := lw_At p s m meth c b Ln xs ∧ Ln ≤ 384 ∧ va_K X.D wCl (tyx X) s ∧ InjX X ∧ NW s ∧ (∀ q, AX X q → s.heap.size ≤ q) ∧ cells ≤ 600000 ∧ slots ≤ 7302250
def LL (X : WX) (b i : Nat) (ls : Array Slot) : Prop := lv_has ls 4 [(3, .int (nI i)), (0, .ref b), (1, .ref (X.ad 7 0)), (2, .ref (X.ad 8 0))]
def asL (xs : Nat → Int32) (i : Nat) : Nat → List MV
  | 0 => []
  | n + 1 => asL xs i n ++ [.inl (xs (i + (n + 1)))]
theorem asL_len (xs : Nat → Int32) (i : Nat) : ∀ n, (asL xs i n).length = n := by
  intro n
  induction n with
  | zero => rfl
  | succ n ih => simp [asL, ih]
theorem ofI : ∀ j : Nat, j ≤ 5 → Int32.ofInt (j : Int) = nI j := by decide
section LAW
variable {p : Program} {l : Launch} {e : Env} {s : State} {m : MethodId} {below : List Frame} {meth : Method} {c : Code} {b Ln : Nat} {xs : Nat → Int32} {X : WX} {cells slots : Nat} {G : State → Prop}
theorem law_arg (C : LC p s m meth c b Ln xs X cells slots) {H : Heap} {locs : List Loc} {ls : Array Slot} {i : Nat} (hS : va_S (AX X) s.heap H locs) (hl : LL X b i ls) {pc j : Nat} (hd : dA pc j = true) (hj : i + j < Ln) (hj5 : j ≤ 5) {st : List Value} (kk : W p l e room_1 s m #[Value.ref b] below meth c H locs cells slots G (F0 m (pc + 5) ls (.int (xs (i + j)) :: st))) : W p l e room_1 s m #[Value.ref b] below meth c H locs cells slots G (F0 m pc ls st) := by
  obtain ⟨⟨hx, hb, hr, hml, hown, hts, hX, hbl, hlocks, hgv⟩, hL, hK, hI, hNW, hAX, hc1, hc2⟩ := C
  have hbA : ¬ AX X b := fun z => absurd (hAX b z) (Nat.not_le.mpr hbl)
  simp only [dA, Bool.and_eq_true, decide_eq_true_eq] at hd
  obtain ⟨⟨⟨⟨d0, d1⟩, d2⟩, d3⟩, d4⟩ := hd
  refine lv_aload_n hx hb d0 rfl (lv_at hl 1 rfl) ?_
  refine lv_iload_n hx hb d1 rfl (lv_at hl 0 rfl) ?_
  refine lv_iconst (v := nI j) hx hb d2 (ofI j hj5) ?_
  refine lv_iadd hx hb d3 ?_
  rw [nI_add]
  refine va_sld hx hb hX hbl hbA hS (vp_in_nI hj (by omega)) d4 ?_
  rw [nI_clamp (by omega)]
  exact kk
theorem law_args (C : LC p s m meth c b Ln xs X cells slots) {H : Heap} {locs : List Loc} {ls : Array Slot} {i : Nat} (hS : va_S (AX X) s.heap H locs) (hl : LL X b i ls) {pc : Nat} {st : List Value} : ∀ n, dAs pc n = true → i + n < Ln → n ≤ 5 → W p l e room_1 s m #[Value.ref b] below meth c H locs cells slots G (F0 m (pc + 5 * n) ls (((asL xs i n).map (vv X)).reverse ++ st)) → W p l e room_1 s m #[Value.ref b] below meth c H locs cells slots G (F0 m pc ls st) := by
  intro n
  induction n with
  | zero => intro _ _ _ kk; exact kk
  | succ n ih =>
    intro hd hi hn kk
    simp only [dAs, Bool.and_eq_true] at hd
    refine ih hd.1 (by omega) (by omega) (law_arg C hS hl hd.2 (by omega) (by omega) ?_)
    have e : ((asL xs i (n + 1)).map (vv X)).reverse ++ st = .int (xs (i + (n + 1))) :: (((asL xs i n).map (vv X)).reverse ++ st) := by
      simp [asL, vv]
    rw [e, show pc + 5 * (n + 1) = pc + 5 * n + 5 by omega] at kk
    exact kk
theorem law_call (C : LC p s m meth c b Ln xs X cells slots) {H : Heap} {locs : List Loc} {ls : Array Slot} {u : Mem} {Qr : Option MV → Mem → Prop} {pc i k n : Nat} {xw : List Nat} {g : Sg} {as t : List MV} (hok : okCL pc i xw k n g = true) (hNI : 0 < NI k) (h : OKm 40 g (.inr (.inr (k, 0)) :: as) u Qr) (has : as.length = n) (hct : cats t ≤ 8) (hP : va_P X.D wCl (wsx X u) H) (hS : va_S (AX X) s.heap H locs) (hsz : ls.size = 4)
    (kk : ∀ (r : Option MV) (u1 : Mem) (H1 : Heap) (locs1 : List Loc), Qr r u1 → va_P X.D wCl (wsx X u1) H1 → va_S (AX X) s.heap H1 locs1 → W p l e room_1 s m #[Value.ref b] below meth c H1 locs1 cells slots G (F0 m (pc + 3) ls ((pushR r t).map (vv X)))) : W p l e room_1 s m #[Value.ref b] below meth c H locs cells slots G (F0 m pc ls ((as.map (vv X)).reverse ++ .ref (X.ad k 0) :: t.map (vv X))) := by
  obtain ⟨⟨hx, hb, hr, hml, hown, hts0, hX, hbl, hlocks, hgv⟩, hL, hK, hI, hNW, hAX, hc1, hc2⟩ := C
  have hts : ∀ w ∈ tg, w.before #[Value.ref b] s = true := fun w hw => hts0 w (tg_of hw)
  simp only [okCL, Bool.and_eq_true, decide_eq_true_eq] at hok
  obtain ⟨⟨⟨⟨⟨⟨⟨⟨⟨⟨hdec, hk9⟩, hcl⟩, hl1⟩, hl2⟩, hl3⟩, hl4⟩, hl5⟩, hmx⟩, hnm⟩, hpl⟩ := hok
  cases hr1 : wCl[k]? with
  | none => rw [hr1] at hcl; cases hcl
  | some q =>
    rw [hr1] at hcl
    simp only [decide_eq_true_eq] at hcl
    have hG : GoodIn tg (wsG g) := by
      intro w hw
      rcases List.mem_cons.mp hw with rfl | hw
      · exact tg_goodIn2 _ (inT_mem hl5)
      · exact tg_goodIn2 w hw
    have hCB : CallB room_1 s #[Value.ref b] R_law i g.1 g.2.1 g.2.2.1 g.2.2.2 (wsG g) (rmD 40) 0 0 n := callB_of n hts hG rfl rfl rfl (hts _ (inT_mem hl4)) (hts _ (inT_mem hl1)) ⟨hnm.1, hnm.2, hpl⟩ ⟨by show 40 + 1 ≤ 2048; omega, by show 8 + (g.2.2.1 + 11) + 40 * 40 ≤ 84000; omega⟩
    refine call_W (X := X) (t := t) (va_runV (As := as.map (vv X)) (b := X.ad k 0) ⟨hx, hb, hml, hown, hts⟩ (h l X) (C := g.1.cls) (n := n) ⟨hCB, hts _ (inT_mem hl2), hts _ (inT_mem hl3)⟩ ⟨fun a1 U g1 mk q1 => ?_, ?_, fun U hU hW => ?_⟩ rfl (by simpa using has) hsz rfl (lv_room (by rw [cats_eq]; exact hct)) hdec ⟨by show cells + 0 ≤ 600000; omega, by show slots + 0 ≤ 7302250; omega⟩) hS kk
    · exact ⟨q1.1, q1.2.1, va_K.moved (u := U) (U := U.calling g1 mk a1) (Vm.Alike.refl U.vm) q1.2.2.1, q1.2.2.2.1, NW.same (u := U) (U := U.calling g1 mk a1) rfl q1.2.2.2.2⟩
    · rw [hcl]
      exact va_recv hK hP (q0 := off k + 0) hr1 (by rw [wsx_at X u hNI, cellF_obj X _ _ 0 hk9])
    · exact ⟨rfl, by rw [hU]; exact hP, va_K.moved hW.alike hK, hI, NW.warm hW hNW⟩
theorem law_case (C : LC p s m meth c b Ln xs X cells slots) {H : Heap} {locs : List Loc} {ls : Array Slot} {u : Mem} {i pc n iw im : Nat} {xw xm : List Nat} {gw gm : Sg} {o : Int} {lg : Bool} (hok : okCase pc n iw xw gw im xm gm o lg = true) (hpr : Pr gw gm (asL xs i n) u lg) (hin : i + n < Ln) (hn : n ≤ 5) (hP : va_P X.D wCl (wsx X u) H) (hS : va_S (AX X) s.heap H locs) (hl : LL X b i ls)
    (kk : ∀ (u' : Mem) (H' : Heap) (locs' : List Loc), Inv u' → va_P X.D wCl (wsx X u') H' → va_S (AX X) s.heap H' locs' → W p l e room_1 s m #[Value.ref b] below meth c H' locs' cells slots G (F0 m 1188 ls [])) : W p l e room_1 s m #[Value.ref b] below meth c H locs cells slots G (F0 m pc ls []) := by
  have hsz : ls.size = 4 := hl.1
  obtain ⟨⟨hx, hb, -⟩, -⟩ := id C
  simp only [okCase, Bool.and_eq_true, decide_eq_true_eq] at hok
  obtain ⟨⟨⟨⟨⟨⟨d0, d1⟩, d2⟩, d3⟩, d4⟩, d5⟩, d6⟩ := hok
  refine lv_aload_n hx hb d0 rfl (lv_at hl 2 rfl) ?_
  refine law_args C hS hl n d1 hin hn ?_
  refine law_call (t := []) C d2 (by decide) hpr (asL_len xs i n) (by decide) hP hS hsz (fun r u1 H1 locs1 hq hP1 hS1 => ?_)
  obtain ⟨v, rfl, hkn, hM⟩ := hq
  have hcv : cats [v] ≤ 8 := by rcases v with x | x | x <;> exact Nat.le_of_ble_eq_true rfl
  refine lv_aload_n hx hb d3 rfl (lv_at hl 3 rfl) ?_
  refine law_args C hS1 hl n d4 hin hn ?_
  refine law_call (t := [v]) C d5 (by decide) hM (asL_len xs i n) hcv hP1 hS1 hsz (fun r2 u2 H2 locs2 hq2 hP2 hS2 => ?_)
  obtain ⟨rfl, hI2⟩ := hq2
  cases lg with
  | true =>
    obtain ⟨x, rfl⟩ := hkn
    simp only [if_true, Bool.and_eq_true, decide_eq_true_eq] at d6
    obtain ⟨⟨d6, d7⟩, d8⟩ := d6
    refine W.lcmp (x := x) (y := x) hx hb d6 ?_
    have h0 : lg_cmp x x = 0 := by unfold lg_cmp; simp
    rw [h0]
    exact lv_if_eq hx hb d7 d8 (fun _ => kk u2 H2 locs2 hI2 hP2 hS2) (fun z => absurd rfl z)
  | false =>
    obtain ⟨x, rfl⟩ := hkn
    simp only [if_neg Bool.false_ne_true, Bool.and_eq_true, decide_eq_true_eq] at d6
    obtain ⟨d6, d7⟩ := d6
    exact lv_icmp_eq (x := x) (y := x) hx hb d6 d7 (fun _ => kk u2 H2 locs2 hI2 hP2 hS2) (fun z => absurd rfl z)
end LAW
