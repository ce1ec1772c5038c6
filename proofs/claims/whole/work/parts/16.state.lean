/-- what has been told: texts; tears (how many, days, columns); what was seen (how many, days, columns, letters, 8: nothing); sheets (none: lost; form, size, items); the latest finding -/
abbrev AS : Type := (Nat → List Nat) × (Nat × (Nat → Nat) × (Nat → Nat)) × (Nat × (Nat → Nat) × (Nat → Nat) × (Nat → Nat)) × (Nat → Option (Nat × Nat × (Nat → Int32))) × Nat
abbrev AS.tx (A : AS) : Nat → List Nat := A.1
abbrev AS.m (A : AS) : Nat := A.2.1.1
abbrev AS.td (A : AS) : Nat → Nat := A.2.1.2.1
abbrev AS.tc (A : AS) : Nat → Nat := A.2.1.2.2
abbrev AS.z (A : AS) : Nat := A.2.2.1.1
abbrev AS.sd (A : AS) : Nat → Nat := A.2.2.1.2.1
abbrev AS.sc (A : AS) : Nat → Nat := A.2.2.1.2.2.1
abbrev AS.sl (A : AS) : Nat → Nat := A.2.2.1.2.2.2
abbrev AS.sh (A : AS) : Nat → Option (Nat × Nat × (Nat → Int32)) := A.2.2.2.1
abbrev AS.lt (A : AS) : Nat := A.2.2.2.2
abbrev AS.n (A : AS) : Nat := (pText (A.tx 0)).2.1
abbrev AS.P (A : AS) : PF := (pText (A.tx 0)).2.2
abbrev AS.R (A : AS) : Nat → Nat := rRain (A.tx 1)
abbrev AS.V (A : AS) : Nat → Int32 := lLaw (A.tx 2)
abbrev AS.lc (A : AS) : Nat := lCnt (A.tx 2)
abbrev AS.S (A : AS) : SC := (A.n, A.P, A.m, A.td, A.tc, 100)
def slC (A : AS) (i : Nat) : Int32 := if A.sl i < 8 then nI (A.sl i) else -nI 1
def setTx (A : AS) (t : Nat) (bs : List Nat) : AS := (fun x => if x = t then bs else A.tx x, A.2)
def setTr (A : AS) (m : Nat) (td tc : Nat → Nat) : AS := (A.1, (m, td, tc), A.2.2)
def setSg (A : AS) (q : Nat × (Nat → Nat) × (Nat → Nat) × (Nat → Nat)) : AS := (A.1, A.2.1, q, A.2.2.2)
def setSh (A : AS) (s : Nat) (o : Option (Nat × Nat × (Nat → Int32))) : AS := (A.1, A.2.1, A.2.2.1, (fun x => if x = s then o else A.sh x), A.2.2.2.2)
def setLt (A : AS) (n : Nat) : AS := (A.1, A.2.1, A.2.2.1, A.2.2.2.1, n)
-- the class holds A
def CT (A : AS) (u : Mem) : Prop := ∀ t, t < 3 → Tx u t (A.tx t)
def CP0 (A : AS) (u : Mem) : Prop := rd u 6 0 2 = flt (pText (A.tx 0)).1 ∧ PV A.n A.P ∧ Bl u A.n A.P
def CP1 (A : AS) (u : Mem) : Prop := rd u 6 1 2 = flt (rFault (A.tx 1) 0) ∧ Rn u A.R (rCnt (A.tx 1))
def CP2 (A : AS) (u : Mem) : Prop := rd u 6 2 2 = flt (lFault (A.tx 2) 0) ∧ Lw u A.V A.lc
def CR3 (A : AS) (u : Mem) : Prop := rd u 2 0 8 = nI A.m ∧ A.m ≤ 8 ∧ rd u 2 0 9 = -nI 1 ∧ ∀ i, i < A.m → rd u 16 0 i = nI (A.td i) ∧ rd u 17 0 i = nI (A.tc i) ∧ A.td i < 20 ∧ A.tc i < 6
def Rw (u : Mem) (s : Nat) (o : Option (Nat × Nat × (Nat → Int32))) : Prop := match o with
  | none => rd u 3 s 1 = nI 1
  | some q => rd u 3 s 1 = nI 0 ∧ rd u 3 s 2 = nI q.1 ∧ q.1 < 3 ∧ rd u 3 s 3 = nI q.2.1 ∧ q.2.1 ≤ 60 ∧ ∀ j, j < q.2.1 → rd u 18 s j = q.2.2 j
def CS (A : AS) (u : Mem) : Prop := (Sg4 u A.z A.sd A.sc (slC A) ∧ ∀ i, i < A.z → A.sl i ≤ 8) ∧ (∀ s, s < 4 → Rw u s (A.sh s)) ∧ rd u 7 0 12 = nI A.lt ∧ A.lt ≤ 5
def CF (A : AS) (u : Mem) : Prop := rd u 7 0 11 = nI 0 ∨ (rd u 7 0 11 = nI 1 ∧ FT u 0 20 (fct A.S A.R))
def CIn (A : AS) (u : Mem) : Prop := CT A u ∧ CP0 A u ∧ CP1 A u ∧ CP2 A u ∧ CR3 A u ∧ CS A u ∧ CF A u
/-- the cells that the class keeps -/
abbrev KC (c i : Nat) : Prop := (c = 0 ∨ c = 2 ∨ c = 3 ∨ c = 4 ∨ c = 6 ∨ c = 7 ∨ c = 9 ∨ c = 14 ∨ c = 15 ∨ c = 16 ∨ c = 17 ∨ c = 18 ∨ c = 19 ∨ c = 20 ∨ c = 21 ∨ c = 23) ∨ (c = 22 ∧ i = 0)
theorem CT.keep {A : AS} {u v : Mem} (h : CT A u) (hv : ∀ i j, rd v 6 i 1 = rd u 6 i 1 ∧ rd v 23 i j = rd u 23 i j) : CT A v := fun t ht => (h t ht).keep fun j => hv t j
theorem Bl.keep {u v : Mem} {n : Nat} {P : PF} (h : Bl u n P) (h5 : rd v 2 0 5 = rd u 2 0 5) (hv : ∀ i j, rd v 0 i j = rd u 0 i j ∧ rd v 9 i j = rd u 9 i j) : Bl v n P := by
  refine ⟨by rw [h5]; exact h.1, fun k hk => ?_⟩
  obtain ⟨g1, g2, g3, g4, g5, g6⟩ := h.2 k hk
  refine ⟨?_, ?_, ?_, ?_, ?_, fun j hj => ?_⟩
  all_goals first | rw [(hv _ _).1]; assumption | (rw [(hv _ j).2]; exact g6 j hj)
theorem CP0.keep {A : AS} {u v : Mem} (h : CP0 A u) (hf : rd v 6 0 2 = rd u 6 0 2) (h5 : rd v 2 0 5 = rd u 2 0 5) (hv : ∀ i j, rd v 0 i j = rd u 0 i j ∧ rd v 9 i j = rd u 9 i j) : CP0 A v := ⟨by rw [hf]; exact h.1, h.2.1, h.2.2.keep h5 hv⟩
theorem CP1.keep {A : AS} {u v : Mem} (h : CP1 A u) (hf : rd v 6 1 2 = rd u 6 1 2) (h5 : rd v 2 0 6 = rd u 2 0 6) (hv : ∀ j, rd v 14 0 j = rd u 14 0 j) : CP1 A v := ⟨by rw [hf]; exact h.1, fun a ha => by rw [hv]; exact h.2.1 a ha, by rw [h5]; exact h.2.2⟩
theorem CP2.keep {A : AS} {u v : Mem} (h : CP2 A u) (hf : rd v 6 2 2 = rd u 6 2 2) (h5 : rd v 2 0 7 = rd u 2 0 7) (hv : ∀ j, rd v 15 0 j = rd u 15 0 j) : CP2 A v := ⟨by rw [hf]; exact h.1, fun a ha => by rw [hv]; exact h.2.1 a ha, by rw [h5]; exact h.2.2.1, h.2.2.2⟩
theorem CR3.keep {A : AS} {u v : Mem} (h : CR3 A u) (h8 : rd v 2 0 8 = rd u 2 0 8) (h9 : rd v 2 0 9 = rd u 2 0 9) (hv : ∀ j, rd v 16 0 j = rd u 16 0 j ∧ rd v 17 0 j = rd u 17 0 j) : CR3 A v := ⟨by rw [h8]; exact h.1, h.2.1, by rw [h9]; exact h.2.2.1, fun i hi => by rw [(hv i).1, (hv i).2]; exact h.2.2.2 i hi⟩
theorem Rw.keep {u v : Mem} {s : Nat} {o : Option (Nat × Nat × (Nat → Int32))} (h : Rw u s o) (hv : ∀ j, rd v 3 s j = rd u 3 s j ∧ rd v 18 s j = rd u 18 s j) : Rw v s o := by
  cases o with
  | none => show rd v 3 s 1 = nI 1; rw [(hv 1).1]; exact h
  | some q =>
    obtain ⟨h1, h2, h3, h4, h5, h6⟩ := h
    exact ⟨by rw [(hv 1).1]; exact h1, by rw [(hv 2).1]; exact h2, h3, by rw [(hv 3).1]; exact h4, h5, fun j hj => by rw [(hv j).2]; exact h6 j hj⟩
theorem CS.keep {A : AS} {u v : Mem} (h : CS A u) (hv : ∀ c i j, (c = 3 ∨ c = 4 ∨ c = 18 ∨ c = 19 ∨ c = 20 ∨ c = 21) → rd v c i j = rd u c i j) (h12 : rd v 7 0 12 = rd u 7 0 12) : CS A v :=
  ⟨⟨h.1.1.keep fun c i j hc => hv c i j (by omega), h.1.2⟩, fun s hs => (h.2.1 s hs).keep fun j => ⟨hv _ _ _ (by omega), hv _ _ _ (by omega)⟩, by rw [h12]; exact h.2.2.1, h.2.2.2⟩
theorem CIn.keep {A : AS} {u v : Mem} (h : CIn A u) (hv : ∀ c i j, KC c i → rd v c i j = rd u c i j) : CIn A v := by
  obtain ⟨h1, h2, h3, h4, h5, h6, h7⟩ := h
  refine ⟨h1.keep fun i j => ⟨hv _ _ _ (by simp [KC]), hv _ _ _ (by simp [KC])⟩, h2.keep (hv _ _ _ (by simp [KC])) (hv _ _ _ (by simp [KC])) fun i j => ⟨hv _ _ _ (by simp [KC]), hv _ _ _ (by simp [KC])⟩, h3.keep (hv _ _ _ (by simp [KC])) (hv _ _ _ (by simp [KC])) fun j => hv _ _ _ (by simp [KC]), h4.keep (hv _ _ _ (by simp [KC])) (hv _ _ _ (by simp [KC])) fun j => hv _ _ _ (by simp [KC]), h5.keep (hv _ _ _ (by simp [KC])) (hv _ _ _ (by simp [KC])) fun j => ⟨hv _ _ _ (by simp [KC]), hv _ _ _ (by simp [KC])⟩, h6.keep (fun c i j hc => hv c i j (by omega)) (hv _ _ _ (by simp [KC])), ?_⟩
  rcases h7 with h | ⟨h, h'⟩
  · exact Or.inl (by rw [hv _ _ _ (by simp [KC])]; exact h)
  · exact Or.inr ⟨by rw [hv _ _ _ (by simp [KC])]; exact h, fun a ha c hc k hk => by rw [hv _ _ _ (by simp [KC])]; exact h' a ha c hc k hk⟩
theorem CIn.pn {A : AS} {u : Mem} (h : CIn A u) : Pn u A.S := ⟨h.2.1.2.1, h.2.1.2.2, h.2.2.2.2.1.1, by have := h.2.2.2.2.1.2.1; show A.m ≤ 10; omega, h.2.2.2.2.1.2.2.1, by show (100 : Nat) ≤ 100; omega, h.2.2.2.2.1.2.2.2⟩
/-- the reference's cells are as they were -/
def KM (u v : Mem) : Prop := ∀ c i j, (c = 8 ∨ 31 ≤ c) → rd v c i j = rd u c i j
theorem KM.rf {u : Mem} : KM u u := fun _ _ _ _ => rfl
theorem KM.tr {u v w : Mem} (h : KM u v) (k : KM v w) : KM u w := fun c i j hc => (k c i j hc).trans (h c i j hc)
theorem KM.sm {F : Nat → Nat → Nat → Prop} {u v : Mem} (h : Sm F u v) (hf : ∀ c i j, F c i j → c ≠ 8 ∧ c < 31) : KM u v := fun c i j hc => h.1 c i j fun z => by have := hf c i j z; omega
theorem KM.wr {u v : Mem} (h : KM u v) (c i j : Nat) (x : Int32) (hc : c ≠ 8 ∧ c < 31) : KM u (wr v c i j x) := fun a b k ha => by
  rw [rd_wr, if_neg (by omega)]; exact h a b k ha
set_option maxHeartbeats 4000000 in
set_option maxRecDepth 100000 in
theorem c_W_take {d t : Nat} {A : AS} {u : Mem} {Q : Option MV → Mem → Prop} (ht : t < 3) (h1 : CT A u) (h2 : t ≠ 0 → CP0 A u) (h3 : t ≠ 1 → CP1 A u) (h4 : t ≠ 2 → CP2 A u) (h5 : CR3 A u) (h6 : CS A u) (hq : ∀ v, CIn A v → KM u v → Q none v) : OKm (d + 5) g_W_take [.inr (.inr (7, 0)), .inl (nI t)] u Q := by
  have e : t = 0 ∨ t = 1 ∨ t = 2 := by omega
  (refine en_W_take _ (Nat.le_of_ble_eq_true rfl) (rb_W_take_0 ?_); simp only [bk_W_take_0, gr_aloadn, gr_getfield, fm_7_0, NI_7, gr_iloadn, gr_aaload, gr_astoren, st1, clr_0, clr_s, sk_0, sk_s, gr_ifCond_ne, fm_7_1, gr_invokevirtual, NI_2, ps_0, ps_s, pu_n, pu_s, ct_0, ct_i, ct_l, ct_r, gr_putfield, fk_6_2, iz_6_2, NI_6, gr_goto, gr_iconst, gr_ificmp_ne, fk_7_11, iz_7_11, gr_return, NI_24, ra_24, al_24, gr_nil, pI_c, pR_c, oI_c, oR_c, lg_i, lg_l, lg_r, lg_n, kI_p, kI_m, lk_0, lk_s, ar_n, ar_c, if_true, if_false, List.replicate, Nat.reduceAdd, Nat.reduceSub, Nat.reduceLeDiff, Nat.reduceEqDiff, Nat.reduceLT, reduceIte, true_and, and_true, true_implies, false_implies, implies_true, eq_self, not_true_eq_false, not_false_eq_true, Bool.false_eq_true, reduceCtorEq, forall_const, List.headD_cons, Nat.zero_add, true_or, or_true, ne_eq, false_and, and_false, false_or, or_false, Nat.reduceBEq, Bool.false_and, Bool.and_false, Bool.or_false, Bool.false_or, Bool.and_self, Bool.true_and, Bool.and_true, Bool.or_self, z10, z01, zm0, nz1, nz0, cnt0])
  simp (disch := omega) only [nI_leI, nI_ltI, nI_eq, nI_add, pk_mul, nI_clamp, vp_nI, nI_lt0, nI_ge0, nI_eq0, nI_gt0, nI_le0, nI_neg1, neg1_nI, Nat.not_le, Nat.not_lt, if_true, if_false, true_and, and_true, true_implies, false_implies, implies_true, not_true_eq_false, not_false_eq_true, reduceIte, false_or, or_false, false_and, and_false, true_or, or_true, Nat.zero_add]
  rcases e with rfl | rfl | rfl
  · refine ⟨by omega, fun h => absurd rfl h, fun _ => ?_⟩
    refine c_N_takeBills (h1 0 (by omega)) (fun v hpv hbl hs => ?_)
    simp only [gr_aloadn, gr_getfield, fm_7_0, NI_7, gr_iloadn, gr_aaload, gr_astoren, st1, clr_0, clr_s, sk_0, sk_s, gr_ifCond_ne, fm_7_1, gr_invokevirtual, NI_2, ps_0, ps_s, pu_n, pu_s, ct_0, ct_i, ct_l, ct_r, gr_putfield, fk_6_2, iz_6_2, NI_6, gr_goto, gr_iconst, gr_ificmp_ne, fk_7_11, iz_7_11, gr_return, NI_24, ra_24, al_24, gr_nil, pI_c, pR_c, oI_c, oR_c, lg_i, lg_l, lg_r, lg_n, kI_p, kI_m, lk_0, lk_s, ar_n, ar_c, if_true, if_false, List.replicate, Nat.reduceAdd, Nat.reduceSub, Nat.reduceLeDiff, Nat.reduceEqDiff, Nat.reduceLT, reduceIte, true_and, and_true, true_implies, false_implies, implies_true, eq_self, not_true_eq_false, not_false_eq_true, Bool.false_eq_true, reduceCtorEq, forall_const, List.headD_cons, Nat.zero_add, true_or, or_true, ne_eq, false_and, and_false, false_or, or_false, Nat.reduceBEq, Bool.false_and, Bool.and_false, Bool.or_false, Bool.false_or, Bool.and_self, Bool.true_and, Bool.and_true, Bool.or_self, z10, z01, zm0, nz1, nz0, cnt0]
    (refine rb_W_take_3 ?_; simp only [bk_W_take_3, gr_aloadn, gr_getfield, fm_7_0, NI_7, gr_iloadn, gr_aaload, gr_astoren, st1, clr_0, clr_s, sk_0, sk_s, gr_ifCond_ne, fm_7_1, gr_invokevirtual, NI_2, ps_0, ps_s, pu_n, pu_s, ct_0, ct_i, ct_l, ct_r, gr_putfield, fk_6_2, iz_6_2, NI_6, gr_goto, gr_iconst, gr_ificmp_ne, fk_7_11, iz_7_11, gr_return, NI_24, ra_24, al_24, gr_nil, pI_c, pR_c, oI_c, oR_c, lg_i, lg_l, lg_r, lg_n, kI_p, kI_m, lk_0, lk_s, ar_n, ar_c, if_true, if_false, List.replicate, Nat.reduceAdd, Nat.reduceSub, Nat.reduceLeDiff, Nat.reduceEqDiff, Nat.reduceLT, reduceIte, true_and, and_true, true_implies, false_implies, implies_true, eq_self, not_true_eq_false, not_false_eq_true, Bool.false_eq_true, reduceCtorEq, forall_const, List.headD_cons, Nat.zero_add, true_or, or_true, ne_eq, false_and, and_false, false_or, or_false, Nat.reduceBEq, Bool.false_and, Bool.and_false, Bool.or_false, Bool.false_or, Bool.and_self, Bool.true_and, Bool.and_true, Bool.or_self, z10, z01, zm0, nz1, nz0, cnt0])
    refine hq _ ⟨?_, ⟨by simp [rd_wr], hpv, ?_⟩, ?_, ?_, ?_, ?_, Or.inl (by simp [rd_wr])⟩ ?_
    · exact h1.keep fun i j => by simp only [rd_wr]; simp; exact ⟨hs.1 _ _ _ (by simp [FN]), hs.1 _ _ _ (by simp [FN])⟩
    · exact hbl.keep (by simp [rd_wr]) fun i j => by simp [rd_wr]
    · refine (h3 (by omega)).keep ?_ ?_ fun j => ?_ <;> simp [rd_wr] <;> exact hs.1 _ _ _ (by simp [FN])
    · refine (h4 (by omega)).keep ?_ ?_ fun j => ?_ <;> simp [rd_wr] <;> exact hs.1 _ _ _ (by simp [FN])
    · refine h5.keep ?_ ?_ fun j => ?_ <;> simp [rd_wr] <;> first | exact hs.1 _ _ _ (by simp [FN]) | exact ⟨hs.1 _ _ _ (by simp [FN]), hs.1 _ _ _ (by simp [FN])⟩
    · refine h6.keep (fun c i j hc => ?_) ?_
      · rw [rd_wr, if_neg (by omega), rd_wr, if_neg (by omega)]; exact hs.1 _ _ _ (by simp [FN]; omega)
      · simp [rd_wr]; exact hs.1 _ _ _ (by simp [FN])
    · exact ((KM.sm hs fun c i j hc => by rcases hc with h | h <;> omega).wr _ _ _ _ (by omega)).wr _ _ _ _ (by omega)
  · refine ⟨by omega, fun _ => ?_, fun h => by omega⟩
    (refine rb_W_take_1 ?_; simp only [bk_W_take_1, gr_aloadn, gr_getfield, fm_7_0, NI_7, gr_iloadn, gr_aaload, gr_astoren, st1, clr_0, clr_s, sk_0, sk_s, gr_ifCond_ne, fm_7_1, gr_invokevirtual, NI_2, ps_0, ps_s, pu_n, pu_s, ct_0, ct_i, ct_l, ct_r, gr_putfield, fk_6_2, iz_6_2, NI_6, gr_goto, gr_iconst, gr_ificmp_ne, fk_7_11, iz_7_11, gr_return, NI_24, ra_24, al_24, gr_nil, pI_c, pR_c, oI_c, oR_c, lg_i, lg_l, lg_r, lg_n, kI_p, kI_m, lk_0, lk_s, ar_n, ar_c, if_true, if_false, List.replicate, Nat.reduceAdd, Nat.reduceSub, Nat.reduceLeDiff, Nat.reduceEqDiff, Nat.reduceLT, reduceIte, true_and, and_true, true_implies, false_implies, implies_true, eq_self, not_true_eq_false, not_false_eq_true, Bool.false_eq_true, reduceCtorEq, forall_const, List.headD_cons, Nat.zero_add, true_or, or_true, ne_eq, false_and, and_false, false_or, or_false, Nat.reduceBEq, Bool.false_and, Bool.and_false, Bool.or_false, Bool.false_or, Bool.and_self, Bool.true_and, Bool.and_true, Bool.or_self, z10, z01, zm0, nz1, nz0, cnt0])
    refine c_N_takeRains (h1 1 (by omega)) (fun v hrn hs => ?_)
    simp only [gr_aloadn, gr_getfield, fm_7_0, NI_7, gr_iloadn, gr_aaload, gr_astoren, st1, clr_0, clr_s, sk_0, sk_s, gr_ifCond_ne, fm_7_1, gr_invokevirtual, NI_2, ps_0, ps_s, pu_n, pu_s, ct_0, ct_i, ct_l, ct_r, gr_putfield, fk_6_2, iz_6_2, NI_6, gr_goto, gr_iconst, gr_ificmp_ne, fk_7_11, iz_7_11, gr_return, NI_24, ra_24, al_24, gr_nil, pI_c, pR_c, oI_c, oR_c, lg_i, lg_l, lg_r, lg_n, kI_p, kI_m, lk_0, lk_s, ar_n, ar_c, if_true, if_false, List.replicate, Nat.reduceAdd, Nat.reduceSub, Nat.reduceLeDiff, Nat.reduceEqDiff, Nat.reduceLT, reduceIte, true_and, and_true, true_implies, false_implies, implies_true, eq_self, not_true_eq_false, not_false_eq_true, Bool.false_eq_true, reduceCtorEq, forall_const, List.headD_cons, Nat.zero_add, true_or, or_true, ne_eq, false_and, and_false, false_or, or_false, Nat.reduceBEq, Bool.false_and, Bool.and_false, Bool.or_false, Bool.false_or, Bool.and_self, Bool.true_and, Bool.and_true, Bool.or_self, z10, z01, zm0, nz1, nz0, cnt0]
    (refine rb_W_take_3 ?_; simp only [bk_W_take_3, gr_aloadn, gr_getfield, fm_7_0, NI_7, gr_iloadn, gr_aaload, gr_astoren, st1, clr_0, clr_s, sk_0, sk_s, gr_ifCond_ne, fm_7_1, gr_invokevirtual, NI_2, ps_0, ps_s, pu_n, pu_s, ct_0, ct_i, ct_l, ct_r, gr_putfield, fk_6_2, iz_6_2, NI_6, gr_goto, gr_iconst, gr_ificmp_ne, fk_7_11, iz_7_11, gr_return, NI_24, ra_24, al_24, gr_nil, pI_c, pR_c, oI_c, oR_c, lg_i, lg_l, lg_r, lg_n, kI_p, kI_m, lk_0, lk_s, ar_n, ar_c, if_true, if_false, List.replicate, Nat.reduceAdd, Nat.reduceSub, Nat.reduceLeDiff, Nat.reduceEqDiff, Nat.reduceLT, reduceIte, true_and, and_true, true_implies, false_implies, implies_true, eq_self, not_true_eq_false, not_false_eq_true, Bool.false_eq_true, reduceCtorEq, forall_const, List.headD_cons, Nat.zero_add, true_or, or_true, ne_eq, false_and, and_false, false_or, or_false, Nat.reduceBEq, Bool.false_and, Bool.and_false, Bool.or_false, Bool.false_or, Bool.and_self, Bool.true_and, Bool.and_true, Bool.or_self, z10, z01, zm0, nz1, nz0, cnt0])
    refine hq _ ⟨?_, ?_, ⟨by simp [rd_wr], fun a ha => ?_, ?_⟩, ?_, ?_, ?_, Or.inl (by simp [rd_wr])⟩ ?_
    · exact h1.keep fun i j => by simp only [rd_wr]; simp; exact ⟨hs.1 _ _ _ (by simp), hs.1 _ _ _ (by simp)⟩
    · refine (h2 (by omega)).keep ?_ ?_ fun i j => ?_ <;> simp [rd_wr] <;> first | exact hs.1 _ _ _ (by simp) | exact ⟨hs.1 _ _ _ (by simp), hs.1 _ _ _ (by simp)⟩
    · simp [rd_wr]; exact hrn.1 a ha
    · simp [rd_wr]; exact hrn.2
    · refine (h4 (by omega)).keep ?_ ?_ fun j => ?_ <;> simp [rd_wr] <;> exact hs.1 _ _ _ (by simp)
    · refine h5.keep ?_ ?_ fun j => ?_ <;> simp [rd_wr] <;> first | exact hs.1 _ _ _ (by simp) | exact ⟨hs.1 _ _ _ (by simp), hs.1 _ _ _ (by simp)⟩
    · refine h6.keep (fun c i j hc => ?_) ?_
      · rw [rd_wr, if_neg (by omega), rd_wr, if_neg (by omega)]; exact hs.1 _ _ _ (by omega)
      · simp [rd_wr]; exact hs.1 _ _ _ (by simp)
    · exact ((KM.sm hs fun c i j hc => by rcases hc with h | h <;> omega).wr _ _ _ _ (by omega)).wr _ _ _ _ (by omega)
  · refine ⟨by omega, fun _ => ?_, fun h => by omega⟩
    (refine rb_W_take_1 ?_; simp only [bk_W_take_1, gr_aloadn, gr_getfield, fm_7_0, NI_7, gr_iloadn, gr_aaload, gr_astoren, st1, clr_0, clr_s, sk_0, sk_s, gr_ifCond_ne, fm_7_1, gr_invokevirtual, NI_2, ps_0, ps_s, pu_n, pu_s, ct_0, ct_i, ct_l, ct_r, gr_putfield, fk_6_2, iz_6_2, NI_6, gr_goto, gr_iconst, gr_ificmp_ne, fk_7_11, iz_7_11, gr_return, NI_24, ra_24, al_24, gr_nil, pI_c, pR_c, oI_c, oR_c, lg_i, lg_l, lg_r, lg_n, kI_p, kI_m, lk_0, lk_s, ar_n, ar_c, if_true, if_false, List.replicate, Nat.reduceAdd, Nat.reduceSub, Nat.reduceLeDiff, Nat.reduceEqDiff, Nat.reduceLT, reduceIte, true_and, and_true, true_implies, false_implies, implies_true, eq_self, not_true_eq_false, not_false_eq_true, Bool.false_eq_true, reduceCtorEq, forall_const, List.headD_cons, Nat.zero_add, true_or, or_true, ne_eq, false_and, and_false, false_or, or_false, Nat.reduceBEq, Bool.false_and, Bool.and_false, Bool.or_false, Bool.false_or, Bool.and_self, Bool.true_and, Bool.and_true, Bool.or_self, z10, z01, zm0, nz1, nz0, cnt0])
    simp (disch := omega) only [nI_leI, nI_ltI, nI_eq, nI_add, pk_mul, nI_clamp, vp_nI, nI_lt0, nI_ge0, nI_eq0, nI_gt0, nI_le0, nI_neg1, neg1_nI, Nat.not_le, Nat.not_lt, if_true, if_false, true_and, and_true, true_implies, false_implies, implies_true, not_true_eq_false, not_false_eq_true, reduceIte, false_or, or_false, false_and, and_false, true_or, or_true]
    refine ⟨fun _ => ?_, fun h => by omega⟩
    (refine rb_W_take_2 ?_; simp only [bk_W_take_2, gr_aloadn, gr_getfield, fm_7_0, NI_7, gr_iloadn, gr_aaload, gr_astoren, st1, clr_0, clr_s, sk_0, sk_s, gr_ifCond_ne, fm_7_1, gr_invokevirtual, NI_2, ps_0, ps_s, pu_n, pu_s, ct_0, ct_i, ct_l, ct_r, gr_putfield, fk_6_2, iz_6_2, NI_6, gr_goto, gr_iconst, gr_ificmp_ne, fk_7_11, iz_7_11, gr_return, NI_24, ra_24, al_24, gr_nil, pI_c, pR_c, oI_c, oR_c, lg_i, lg_l, lg_r, lg_n, kI_p, kI_m, lk_0, lk_s, ar_n, ar_c, if_true, if_false, List.replicate, Nat.reduceAdd, Nat.reduceSub, Nat.reduceLeDiff, Nat.reduceEqDiff, Nat.reduceLT, reduceIte, true_and, and_true, true_implies, false_implies, implies_true, eq_self, not_true_eq_false, not_false_eq_true, Bool.false_eq_true, reduceCtorEq, forall_const, List.headD_cons, Nat.zero_add, true_or, or_true, ne_eq, false_and, and_false, false_or, or_false, Nat.reduceBEq, Bool.false_and, Bool.and_false, Bool.or_false, Bool.false_or, Bool.and_self, Bool.true_and, Bool.and_true, Bool.or_self, z10, z01, zm0, nz1, nz0, cnt0])
    refine c_N_takeLaw (h1 2 (by omega)) (fun v hlw hs => ?_)
    simp only [gr_aloadn, gr_getfield, fm_7_0, NI_7, gr_iloadn, gr_aaload, gr_astoren, st1, clr_0, clr_s, sk_0, sk_s, gr_ifCond_ne, fm_7_1, gr_invokevirtual, NI_2, ps_0, ps_s, pu_n, pu_s, ct_0, ct_i, ct_l, ct_r, gr_putfield, fk_6_2, iz_6_2, NI_6, gr_goto, gr_iconst, gr_ificmp_ne, fk_7_11, iz_7_11, gr_return, NI_24, ra_24, al_24, gr_nil, pI_c, pR_c, oI_c, oR_c, lg_i, lg_l, lg_r, lg_n, kI_p, kI_m, lk_0, lk_s, ar_n, ar_c, if_true, if_false, List.replicate, Nat.reduceAdd, Nat.reduceSub, Nat.reduceLeDiff, Nat.reduceEqDiff, Nat.reduceLT, reduceIte, true_and, and_true, true_implies, false_implies, implies_true, eq_self, not_true_eq_false, not_false_eq_true, Bool.false_eq_true, reduceCtorEq, forall_const, List.headD_cons, Nat.zero_add, true_or, or_true, ne_eq, false_and, and_false, false_or, or_false, Nat.reduceBEq, Bool.false_and, Bool.and_false, Bool.or_false, Bool.false_or, Bool.and_self, Bool.true_and, Bool.and_true, Bool.or_self, z10, z01, zm0, nz1, nz0, cnt0]
    (refine rb_W_take_3 ?_; simp only [bk_W_take_3, gr_aloadn, gr_getfield, fm_7_0, NI_7, gr_iloadn, gr_aaload, gr_astoren, st1, clr_0, clr_s, sk_0, sk_s, gr_ifCond_ne, fm_7_1, gr_invokevirtual, NI_2, ps_0, ps_s, pu_n, pu_s, ct_0, ct_i, ct_l, ct_r, gr_putfield, fk_6_2, iz_6_2, NI_6, gr_goto, gr_iconst, gr_ificmp_ne, fk_7_11, iz_7_11, gr_return, NI_24, ra_24, al_24, gr_nil, pI_c, pR_c, oI_c, oR_c, lg_i, lg_l, lg_r, lg_n, kI_p, kI_m, lk_0, lk_s, ar_n, ar_c, if_true, if_false, List.replicate, Nat.reduceAdd, Nat.reduceSub, Nat.reduceLeDiff, Nat.reduceEqDiff, Nat.reduceLT, reduceIte, true_and, and_true, true_implies, false_implies, implies_true, eq_self, not_true_eq_false, not_false_eq_true, Bool.false_eq_true, reduceCtorEq, forall_const, List.headD_cons, Nat.zero_add, true_or, or_true, ne_eq, false_and, and_false, false_or, or_false, Nat.reduceBEq, Bool.false_and, Bool.and_false, Bool.or_false, Bool.false_or, Bool.and_self, Bool.true_and, Bool.and_true, Bool.or_self, z10, z01, zm0, nz1, nz0, cnt0])
    refine hq _ ⟨?_, ?_, ?_, ⟨by simp [rd_wr], fun a ha => ?_, ?_, hlw.2.2⟩, ?_, ?_, Or.inl (by simp [rd_wr])⟩ ?_
    · exact h1.keep fun i j => by simp only [rd_wr]; simp; exact ⟨hs.1 _ _ _ (by simp), hs.1 _ _ _ (by simp)⟩
    · refine (h2 (by omega)).keep ?_ ?_ fun i j => ?_ <;> simp [rd_wr] <;> first | exact hs.1 _ _ _ (by simp) | exact ⟨hs.1 _ _ _ (by simp), hs.1 _ _ _ (by simp)⟩
    · refine (h3 (by omega)).keep ?_ ?_ fun j => ?_ <;> simp [rd_wr] <;> exact hs.1 _ _ _ (by simp)
    · simp [rd_wr]; exact hlw.1 a ha
    · simp [rd_wr]; exact hlw.2.1
    · refine h5.keep ?_ ?_ fun j => ?_ <;> simp [rd_wr] <;> first | exact hs.1 _ _ _ (by simp) | exact ⟨hs.1 _ _ _ (by simp), hs.1 _ _ _ (by simp)⟩
    · refine h6.keep (fun c i j hc => ?_) ?_
      · rw [rd_wr, if_neg (by omega), rd_wr, if_neg (by omega)]; exact hs.1 _ _ _ (by omega)
      · simp [rd_wr]; exact hs.1 _ _ _ (by simp)
    · exact ((KM.sm hs fun c i j hc => by rcases hc with h | h <;> omega).wr _ _ _ _ (by omega)).wr _ _ _ _ (by omega)
