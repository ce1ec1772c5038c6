def stN (P : PF) (d : Nat) : Nat → Nat
  | 0 => 0
  | n + 1 => stN P d n + (if P n 0 = d then 1 else 0)
theorem st_sum (P : PF) (d : Nat) : ∀ n, stuckN P (d + 1) n = stuckN P d n + stN P d n := by
  intro n
  induction n with
  | zero => rfl
  | succ n ih =>
    simp only [stuckN, stN, ih]
    by_cases h1 : P n 0 < d
    · rw [if_pos h1, if_pos (by omega), if_neg (by omega)]; omega
    · by_cases h2 : P n 0 = d
      · rw [if_neg h1, if_pos (by omega), if_pos h2]; omega
      · rw [if_neg h1, if_neg (by omega), if_neg h2]; omega
theorem stuck_le (P : PF) (d : Nat) : ∀ n, stuckN P d n ≤ n := by
  intro n
  induction n with
  | zero => exact Nat.le_refl _
  | succ n ih => simp only [stuckN]; split <;> omega
theorem stN_mono (P : PF) (d i : Nat) : ∀ n, i ≤ n → stN P d i ≤ stN P d n := by
  intro n
  induction n with
  | zero => intro h; rw [show i = 0 by omega]; exact Nat.le_refl _
  | succ n ih =>
    intro h
    by_cases e : i = n + 1
    · rw [e]; exact Nat.le_refl _
    · have := ih (by omega)
      simp only [stN]; omega
def HB (h : Nat) (w : WS) : Prop := ∀ c, c < 6 → w.1 c ≤ h
theorem lay_1 (k c : Nat) (w : WS) (x : Nat) : (layW k c w).1 x = if x = c ∧ w.1 c < 8 then w.1 c + 1 else w.1 x := by
  unfold layW
  by_cases h : w.1 c < 8
  · rw [if_pos h]
    simp only [upN]
    by_cases e : x = c
    · rw [if_pos e, if_pos ⟨e, h⟩]
    · rw [if_neg e, if_neg (fun z => e z.1)]
  · rw [if_neg h, if_neg (fun z => h z.2)]
theorem stick_h {h k a : Nat} {w : WS} (hw : HB h w) : ∀ i, HB (h + 1) (stickN k a i w) ∧ ∀ c, a + i ≤ c → (stickN k a i w).1 c = w.1 c := by
  intro i
  induction i with
  | zero => exact ⟨fun c hc => Nat.le_succ_of_le (hw c hc), fun _ _ => rfl⟩
  | succ i ih =>
    simp only [stickN]
    split
    · next h6 =>
      refine ⟨fun c hc => ?_, fun c hc => ?_⟩
      · rw [lay_1]
        split
        · rw [ih.2 _ (Nat.le_refl _)]; exact Nat.succ_le_succ (hw _ h6)
        · exact ih.1 c hc
      · rw [lay_1, if_neg (by omega)]; exact ih.2 c (by omega)
    · exact ⟨ih.1, fun c hc => ih.2 c (by omega)⟩
theorem sticks_h {h : Nat} {P : PF} {d : Nat} {w : WS} (hw : HB h w) : ∀ i, HB (h + stN P d i) (sticksN P d i w) := by
  intro i
  induction i with
  | zero => exact hw
  | succ i ih =>
    simp only [sticksN, stN]
    by_cases e : P i 0 = d
    · rw [if_pos e, if_pos e]; exact (stick_h ih _).1
    · rw [if_neg e, if_neg e]; exact ih
theorem tears_h {h : Nat} {td tc : Nat → Nat} {sp d : Nat} {w : WS} (hw : HB h w) : ∀ i, HB h (tearsN td tc sp d i w) := by
  intro i
  induction i with
  | zero => exact hw
  | succ i ih =>
    simp only [tearsN]
    split
    · intro c hc
      simp only [tearW, upN]
      split
      · next e => have := ih c hc; rw [e] at this; omega
      · exact ih c hc
    · exact ih
theorem bleach_1 (P : PF) : ∀ j (w : WS), (bleachN P j w).1 = w.1 ∧ (bleachN P j w).2.1 = w.2.1 := by
  intro j
  induction j with
  | zero => intro w; exact ⟨rfl, rfl⟩
  | succ j ih =>
    intro w
    simp only [bleachN, bleachC]
    split
    · exact ih w
    · exact ih w
theorem bleach_2 (P : PF) : ∀ j (w : WS), (∀ c, c < j → w.1 c ≤ 8) → ∀ x, 8 * j ≤ x → (bleachN P j w).2.2 x = w.2.2 x := by
  intro j
  induction j with
  | zero => intro w _ x _; rfl
  | succ j ih =>
    intro w hw x hx
    have e1 := (bleach_1 P j w).1
    simp only [bleachN, bleachC]
    split
    · simp only [upN, e1]
      rw [if_neg (by have := hw j (by omega); omega)]
      exact ih w (fun c hc => hw c (by omega)) x (by omega)
    · exact ih w (fun c hc => hw c (by omega)) x (by omega)
theorem open_h {S : SC} {d : Nat} {w : WS} (hw : HB (stuckN S.P d S.n) w) : HB (stuckN S.P (d + 1) S.n) (openD S d w) := by
  rw [st_sum]
  exact sticks_h (tears_h hw _) _
theorem wall_h (S : SC) (R : Nat → Nat) : ∀ d, HB (stuckN S.P d S.n) (wall S R d) := by
  intro d
  induction d with
  | zero => exact fun c _ => Nat.zero_le _
  | succ d ih =>
    have := open_h ih
    simp only [wall, stepD, closeW]
    split
    · intro c hc; rw [(bleach_1 _ _ _).1]; exact this c hc
    · exact this
theorem look_eq (P : PF) {w w' : WS} (h : w'.2.1 = w.2.1) (c : Nat) : ∀ l left, lookN P w' c l left = lookN P w c l left := by
  intro l
  induction l with
  | zero => intro left; rfl
  | succ l ih => intro left; simp only [lookN, h, ih]
theorem thick_eq (P : PF) {w w' : WS} (h : w'.2.1 = w.2.1) (c : Nat) : ∀ l, thickN P w' c l = thickN P w c l := by
  intro l
  induction l with
  | zero => rfl
  | succ l ih => simp only [thickN, h, ih]
theorem fact_bleach (P : PF) {w : WS} (hw : ∀ c, c < 6 → w.1 c ≤ 8) {r c k : Nat} (hc : c < 6) : factW P (bleachN P c w) r c k = factW P w r c k := by
  have e := bleach_1 P c w
  have e2 := bleach_2 P c w (fun x hx => hw x (by omega))
  have key : ∀ l, (bleachN P c w).2.2 (8 * c + l) = w.2.2 (8 * c + l) := fun l => e2 _ (by omega)
  unfold factW
  simp only [look_eq P e.2, thick_eq P e.2, e.1, e.2, key]
-- the walls of the reference
abbrev PlM (u : Mem) (w : WS) : Prop := PlG 42 43 44 u 0 w
abbrev FWM : Nat → Nat → Nat → Prop := fun c _ _ => c = 42 ∨ c = 43 ∨ c = 44
def isB (x : Int32) (k : Nat) : Prop := x >>> (nI k &&& 31) &&& nI 1 = nI 1
set_option maxHeartbeats 4000000 in
set_option maxRecDepth 100000 in
theorem c_M_isIn {d k : Nat} {x : Int32} {u : Mem} {Q : Option MV → Mem → Prop} (h1 : isB x k → Q (some (.inl (nI 1))) u) (h0 : ¬ isB x k → Q (some (.inl (nI 0))) u) : OKm (d + 1) g_M_isIn [.inl x, .inl (nI k)] u Q := by
  (refine en_M_isIn _ (Nat.le_of_ble_eq_true rfl) (rb_M_isIn_0 ?_); simp only [bk_M_isIn_0, gr_iloadn, gr_ishr, gr_iconst, gr_iand, gr_ificmp_ne, gr_goto, gr_ireturn, gr_nil, pI_c, pR_c, oI_c, oR_c, lg_i, lg_l, lg_r, lg_n, kI_p, kI_m, lk_0, lk_s, ar_n, ar_c, if_true, if_false, List.replicate, Nat.reduceAdd, Nat.reduceSub, Nat.reduceLeDiff, Nat.reduceEqDiff, Nat.reduceLT, reduceIte, true_and, and_true, true_implies, false_implies, implies_true, eq_self, not_true_eq_false, not_false_eq_true, Bool.false_eq_true, reduceCtorEq, forall_const, List.headD_cons, Nat.zero_add, true_or, or_true, ne_eq, false_and, and_false, false_or, or_false, Nat.reduceBEq, Bool.false_and, Bool.and_false, Bool.or_false, Bool.false_or, Bool.and_self, Bool.true_and, Bool.and_true, Bool.or_self, z10, z01, zm0, nz1, nz0, cnt0])
  refine ⟨fun e => ?_, fun e => ?_⟩
  · (refine rb_M_isIn_1 ?_; simp only [bk_M_isIn_1, gr_iloadn, gr_ishr, gr_iconst, gr_iand, gr_ificmp_ne, gr_goto, gr_ireturn, gr_nil, pI_c, pR_c, oI_c, oR_c, lg_i, lg_l, lg_r, lg_n, kI_p, kI_m, lk_0, lk_s, ar_n, ar_c, if_true, if_false, List.replicate, Nat.reduceAdd, Nat.reduceSub, Nat.reduceLeDiff, Nat.reduceEqDiff, Nat.reduceLT, reduceIte, true_and, and_true, true_implies, false_implies, implies_true, eq_self, not_true_eq_false, not_false_eq_true, Bool.false_eq_true, reduceCtorEq, forall_const, List.headD_cons, Nat.zero_add, true_or, or_true, ne_eq, false_and, and_false, false_or, or_false, Nat.reduceBEq, Bool.false_and, Bool.and_false, Bool.or_false, Bool.false_or, Bool.and_self, Bool.true_and, Bool.and_true, Bool.or_self, z10, z01, zm0, nz1, nz0, cnt0])
    (refine rb_M_isIn_2 ?_; simp only [bk_M_isIn_2, gr_iloadn, gr_ishr, gr_iconst, gr_iand, gr_ificmp_ne, gr_goto, gr_ireturn, gr_nil, pI_c, pR_c, oI_c, oR_c, lg_i, lg_l, lg_r, lg_n, kI_p, kI_m, lk_0, lk_s, ar_n, ar_c, if_true, if_false, List.replicate, Nat.reduceAdd, Nat.reduceSub, Nat.reduceLeDiff, Nat.reduceEqDiff, Nat.reduceLT, reduceIte, true_and, and_true, true_implies, false_implies, implies_true, eq_self, not_true_eq_false, not_false_eq_true, Bool.false_eq_true, reduceCtorEq, forall_const, List.headD_cons, Nat.zero_add, true_or, or_true, ne_eq, false_and, and_false, false_or, or_false, Nat.reduceBEq, Bool.false_and, Bool.and_false, Bool.or_false, Bool.false_or, Bool.and_self, Bool.true_and, Bool.and_true, Bool.or_self, z10, z01, zm0, nz1, nz0, cnt0])
    exact h0 e
  · (refine rb_M_isIn_2 ?_; simp only [bk_M_isIn_2, gr_iloadn, gr_ishr, gr_iconst, gr_iand, gr_ificmp_ne, gr_goto, gr_ireturn, gr_nil, pI_c, pR_c, oI_c, oR_c, lg_i, lg_l, lg_r, lg_n, kI_p, kI_m, lk_0, lk_s, ar_n, ar_c, if_true, if_false, List.replicate, Nat.reduceAdd, Nat.reduceSub, Nat.reduceLeDiff, Nat.reduceEqDiff, Nat.reduceLT, reduceIte, true_and, and_true, true_implies, false_implies, implies_true, eq_self, not_true_eq_false, not_false_eq_true, Bool.false_eq_true, reduceCtorEq, forall_const, List.headD_cons, Nat.zero_add, true_or, or_true, ne_eq, false_and, and_false, false_or, or_false, Nat.reduceBEq, Bool.false_and, Bool.and_false, Bool.or_false, Bool.false_or, Bool.and_self, Bool.true_and, Bool.and_true, Bool.or_self, z10, z01, zm0, nz1, nz0, cnt0])
    exact h1 e
set_option maxHeartbeats 4000000 in
set_option maxRecDepth 100000 in
theorem c_M_isTorn {d c : Nat} {w : WS} {u : Mem} {Q : Option MV → Mem → Prop} (hc : c < 6) (hp : PlM u w) (hq : ∀ v, PlM v (tearW c w) → Sm FWM u v → Q none v) : OKm (d + 1) g_M_isTorn [.inr (.inr (8, 0)), .inl (nI c)] u Q := by
  obtain ⟨g1, g2, g3⟩ := hp c hc
  have ht := hp.tear (by decide) (by decide) hc
  (refine en_M_isTorn _ (Nat.le_of_ble_eq_true rfl) (rb_M_isTorn_0 ?_); simp only [bk_M_isTorn_0, gr_aloadn, gr_getfield, fm_8_19, NI_8, gr_iloadn, gr_dup2, pA_i, pA_r, gr_iaload, gr_ifCond_le, gr_iconst, gr_goto, gr_isub, gr_iastore, gr_return, NI_42, ia_42, ln_42, al_42, gr_nil, pI_c, pR_c, oI_c, oR_c, lg_i, lg_l, lg_r, lg_n, kI_p, kI_m, lk_0, lk_s, ar_n, ar_c, if_true, if_false, List.replicate, Nat.reduceAdd, Nat.reduceSub, Nat.reduceLeDiff, Nat.reduceEqDiff, Nat.reduceLT, reduceIte, true_and, and_true, true_implies, false_implies, implies_true, eq_self, not_true_eq_false, not_false_eq_true, Bool.false_eq_true, reduceCtorEq, forall_const, List.headD_cons, Nat.zero_add, true_or, or_true, ne_eq, false_and, and_false, false_or, or_false, Nat.reduceBEq, Bool.false_and, Bool.and_false, Bool.or_false, Bool.false_or, Bool.and_self, Bool.true_and, Bool.and_true, Bool.or_self, z10, z01, zm0, nz1, nz0, cnt0])
  simp (disch := omega) only [nI_leI, nI_ltI, nI_eq, nI_add, pk_mul, nI_clamp, vp_nI, nI_lt0, nI_ge0, nI_eq0, nI_gt0, nI_le0, nI_neg1, neg1_nI, Nat.not_le, Nat.not_lt, if_true, if_false, true_and, and_true, true_implies, false_implies, implies_true, not_true_eq_false, not_false_eq_true, reduceIte, false_or, or_false, false_and, and_false, true_or, or_true, g1]
  (repeat' first | with_reducible intro _ | with_reducible apply And.intro) <;> try omega
  · (refine rb_M_isTorn_1 ?_; simp only [bk_M_isTorn_1, gr_aloadn, gr_getfield, fm_8_19, NI_8, gr_iloadn, gr_dup2, pA_i, pA_r, gr_iaload, gr_ifCond_le, gr_iconst, gr_goto, gr_isub, gr_iastore, gr_return, NI_42, ia_42, ln_42, al_42, gr_nil, pI_c, pR_c, oI_c, oR_c, lg_i, lg_l, lg_r, lg_n, kI_p, kI_m, lk_0, lk_s, ar_n, ar_c, if_true, if_false, List.replicate, Nat.reduceAdd, Nat.reduceSub, Nat.reduceLeDiff, Nat.reduceEqDiff, Nat.reduceLT, reduceIte, true_and, and_true, true_implies, false_implies, implies_true, eq_self, not_true_eq_false, not_false_eq_true, Bool.false_eq_true, reduceCtorEq, forall_const, List.headD_cons, Nat.zero_add, true_or, or_true, ne_eq, false_and, and_false, false_or, or_false, Nat.reduceBEq, Bool.false_and, Bool.and_false, Bool.or_false, Bool.false_or, Bool.and_self, Bool.true_and, Bool.and_true, Bool.or_self, z10, z01, zm0, nz1, nz0, cnt0])
    (refine rb_M_isTorn_2 ?_; simp only [bk_M_isTorn_2, gr_aloadn, gr_getfield, fm_8_19, NI_8, gr_iloadn, gr_dup2, pA_i, pA_r, gr_iaload, gr_ifCond_le, gr_iconst, gr_goto, gr_isub, gr_iastore, gr_return, NI_42, ia_42, ln_42, al_42, gr_nil, pI_c, pR_c, oI_c, oR_c, lg_i, lg_l, lg_r, lg_n, kI_p, kI_m, lk_0, lk_s, ar_n, ar_c, if_true, if_false, List.replicate, Nat.reduceAdd, Nat.reduceSub, Nat.reduceLeDiff, Nat.reduceEqDiff, Nat.reduceLT, reduceIte, true_and, and_true, true_implies, false_implies, implies_true, eq_self, not_true_eq_false, not_false_eq_true, Bool.false_eq_true, reduceCtorEq, forall_const, List.headD_cons, Nat.zero_add, true_or, or_true, ne_eq, false_and, and_false, false_or, or_false, Nat.reduceBEq, Bool.false_and, Bool.and_false, Bool.or_false, Bool.false_or, Bool.and_self, Bool.true_and, Bool.and_true, Bool.or_self, z10, z01, zm0, nz1, nz0, cnt0])
    simp (disch := omega) only [nI_leI, nI_ltI, nI_eq, nI_add, pk_mul, nI_clamp, vp_nI, nI_lt0, nI_ge0, nI_eq0, nI_gt0, nI_le0, nI_neg1, neg1_nI, Nat.not_le, Nat.not_lt, if_true, if_false, true_and, and_true, true_implies, false_implies, implies_true, not_true_eq_false, not_false_eq_true, reduceIte, false_or, or_false, false_and, and_false, true_or, or_true]
    rw [pk_sub (by omega)]
    refine ⟨hc, hq _ ?_ (Sm.rf.wr _ (by omega))⟩
    rwa [show w.1 c - 0 = w.1 c - 1 by omega]
  · (refine rb_M_isTorn_2 ?_; simp only [bk_M_isTorn_2, gr_aloadn, gr_getfield, fm_8_19, NI_8, gr_iloadn, gr_dup2, pA_i, pA_r, gr_iaload, gr_ifCond_le, gr_iconst, gr_goto, gr_isub, gr_iastore, gr_return, NI_42, ia_42, ln_42, al_42, gr_nil, pI_c, pR_c, oI_c, oR_c, lg_i, lg_l, lg_r, lg_n, kI_p, kI_m, lk_0, lk_s, ar_n, ar_c, if_true, if_false, List.replicate, Nat.reduceAdd, Nat.reduceSub, Nat.reduceLeDiff, Nat.reduceEqDiff, Nat.reduceLT, reduceIte, true_and, and_true, true_implies, false_implies, implies_true, eq_self, not_true_eq_false, not_false_eq_true, Bool.false_eq_true, reduceCtorEq, forall_const, List.headD_cons, Nat.zero_add, true_or, or_true, ne_eq, false_and, and_false, false_or, or_false, Nat.reduceBEq, Bool.false_and, Bool.and_false, Bool.or_false, Bool.false_or, Bool.and_self, Bool.true_and, Bool.and_true, Bool.or_self, z10, z01, zm0, nz1, nz0, cnt0])
    simp (disch := omega) only [nI_leI, nI_ltI, nI_eq, nI_add, pk_mul, nI_clamp, vp_nI, nI_lt0, nI_ge0, nI_eq0, nI_gt0, nI_le0, nI_neg1, neg1_nI, Nat.not_le, Nat.not_lt, if_true, if_false, true_and, and_true, true_implies, false_implies, implies_true, not_true_eq_false, not_false_eq_true, reduceIte, false_or, or_false, false_and, and_false, true_or, or_true]
    rw [pk_sub (by omega)]
    exact ⟨hc, hq _ ht (Sm.rf.wr _ (by omega))⟩
/-- the tears of S, in the reference's memory -/
def TO (u : Mem) (S : SC) : Prop := ∃ (m0 : Nat) (td tc : Nat → Nat), rd u 8 0 13 = nI m0 ∧ m0 ≤ 8 ∧ (∀ i, i < m0 → rd u 41 0 (2 * i) = nI (td i) ∧ rd u 41 0 (2 * i + 1) = nI (tc i) ∧ td i < 20 ∧ tc i < 6) ∧ (∀ i, i < m0 → (isB (rd u 8 0 15) i ↔ i = S.sp)) ∧ ((rd u 8 0 16 = -nI 1 ∧ ∀ a w, tearsN S.td S.tc S.sp a S.m w = tearsN td tc S.sp a m0 w) ∨ ∃ (o : Nat) (cs : List Nat), o < 20 ∧ rd u 8 0 16 = nI o ∧ rd u 8 0 17 = encT cs[0]? ∧ rd u 8 0 18 = encT cs[1]? ∧ (∀ c ∈ cs, c < 6) ∧ cs.length ≤ 2 ∧ ∀ a w, tearsN S.td S.tc S.sp a S.m w = if a = o then cs.foldl (fun w c => tearW c w) (tearsN td tc S.sp a m0 w) else tearsN td tc S.sp a m0 w)
theorem TO.keep {u v : Mem} {S : SC} (h : TO u S) (h8 : ∀ j, (j = 13 ∨ j = 15 ∨ j = 16 ∨ j = 17 ∨ j = 18) → rd v 8 0 j = rd u 8 0 j) (h41 : ∀ j, rd v 41 0 j = rd u 41 0 j) : TO v S := by
  obtain ⟨m0, td, tc, a1, a2, a3, a4, a5⟩ := h
  refine ⟨m0, td, tc, by rw [h8 _ (by omega)]; exact a1, a2, fun i hi => by rw [h41, h41]; exact a3 i hi, by rw [h8 _ (by omega)]; exact a4, ?_⟩
  rw [h8 16 (by omega), h8 17 (by omega), h8 18 (by omega)]
  exact a5
theorem encT_no {c : Nat} (h : c < 6) : ¬ encT (some c) = -nI 1 := by
  show ¬ nI c = -nI 1
  rw [nI_neg1 (by omega)]; exact id
set_option maxHeartbeats 4000000 in
set_option maxRecDepth 100000 in
theorem c_M_tearsOff {d a : Nat} {S : SC} {w : WS} {u : Mem} {Q : Option MV → Mem → Prop} (ha : a < 20) (hT : TO u S) (hp : PlM u w) (hq : ∀ v, PlM v (tearsN S.td S.tc S.sp a S.m w) → Sm FWM u v → Q none v) : OKm (d + 2) g_M_tearsOff [.inr (.inr (8, 0)), .inl (nI a)] u Q := by
  obtain ⟨m0, td, tc, a1, a2, a3, a4, a5⟩ := hT
  (refine en_M_tearsOff _ (Nat.le_of_ble_eq_true rfl) (rb_M_tearsOff_0 ?_); simp only [bk_M_tearsOff_0, gr_iconst, gr_istoren, st1, clr_0, clr_s, sk_0, sk_s, gr_iloadn, gr_aloadn, gr_getfield, fm_8_13, NI_8, gr_ificmp_ge, fm_8_14, gr_imul, gr_iaload, gr_ificmp_ne, fm_8_15, gr_invokestatic, ps_0, ps_s, pu_n, pu_s, ct_0, ct_i, ct_l, ct_r, gr_ifCond_ne, gr_iadd, gr_invokevirtual, gr_iinc, gr_goto, fm_8_16, fm_8_17, gr_ificmp_eq, fm_8_18, gr_return, NI_41, ia_41, ln_41, al_41, gr_nil, pI_c, pR_c, oI_c, oR_c, lg_i, lg_l, lg_r, lg_n, kI_p, kI_m, lk_0, lk_s, ar_n, ar_c, if_true, if_false, List.replicate, Nat.reduceAdd, Nat.reduceSub, Nat.reduceLeDiff, Nat.reduceEqDiff, Nat.reduceLT, reduceIte, true_and, and_true, true_implies, false_implies, implies_true, eq_self, not_true_eq_false, not_false_eq_true, Bool.false_eq_true, reduceCtorEq, forall_const, List.headD_cons, Nat.zero_add, true_or, or_true, ne_eq, false_and, and_false, false_or, or_false, Nat.reduceBEq, Bool.false_and, Bool.and_false, Bool.or_false, Bool.false_or, Bool.and_self, Bool.true_and, Bool.and_true, Bool.or_self, z10, z01, zm0, nz1, nz0, cnt0])
  have fin : ∀ (v : Mem) (y : Option MV), PlM v (tearsN td tc S.sp a m0 w) → Sm FWM u v → RunB (d + 2) Y_M_tearsOff 3 [some (.inr (.inr (8, 0))), some (.inl (nI a)), y] [] v Q := by
    intro v y hv hs
    have k16 : rd v 8 0 16 = rd u 8 0 16 := hs.1 _ _ _ (by omega)
    have k17 : rd v 8 0 17 = rd u 8 0 17 := hs.1 _ _ _ (by omega)
    have k18 : rd v 8 0 18 = rd u 8 0 18 := hs.1 _ _ _ (by omega)
    rcases a5 with ⟨b1, b2⟩ | ⟨o, cs, b0, b1, b2, b3, b4, b5, b6⟩
    · (refine rb_M_tearsOff_3 ?_; simp only [bk_M_tearsOff_3, gr_iconst, gr_istoren, st1, clr_0, clr_s, sk_0, sk_s, gr_iloadn, gr_aloadn, gr_getfield, fm_8_13, NI_8, gr_ificmp_ge, fm_8_14, gr_imul, gr_iaload, gr_ificmp_ne, fm_8_15, gr_invokestatic, ps_0, ps_s, pu_n, pu_s, ct_0, ct_i, ct_l, ct_r, gr_ifCond_ne, gr_iadd, gr_invokevirtual, gr_iinc, gr_goto, fm_8_16, fm_8_17, gr_ificmp_eq, fm_8_18, gr_return, NI_41, ia_41, ln_41, al_41, gr_nil, pI_c, pR_c, oI_c, oR_c, lg_i, lg_l, lg_r, lg_n, kI_p, kI_m, lk_0, lk_s, ar_n, ar_c, if_true, if_false, List.replicate, Nat.reduceAdd, Nat.reduceSub, Nat.reduceLeDiff, Nat.reduceEqDiff, Nat.reduceLT, reduceIte, true_and, and_true, true_implies, false_implies, implies_true, eq_self, not_true_eq_false, not_false_eq_true, Bool.false_eq_true, reduceCtorEq, forall_const, List.headD_cons, Nat.zero_add, true_or, or_true, ne_eq, false_and, and_false, false_or, or_false, Nat.reduceBEq, Bool.false_and, Bool.and_false, Bool.or_false, Bool.false_or, Bool.and_self, Bool.true_and, Bool.and_true, Bool.or_self, z10, z01, zm0, nz1, nz0, cnt0, k16, b1])
      refine ⟨fun _ => ?_, fun z => ?_⟩
      · (refine rb_M_tearsOff_5 ?_; simp only [bk_M_tearsOff_5, gr_iconst, gr_istoren, st1, clr_0, clr_s, sk_0, sk_s, gr_iloadn, gr_aloadn, gr_getfield, fm_8_13, NI_8, gr_ificmp_ge, fm_8_14, gr_imul, gr_iaload, gr_ificmp_ne, fm_8_15, gr_invokestatic, ps_0, ps_s, pu_n, pu_s, ct_0, ct_i, ct_l, ct_r, gr_ifCond_ne, gr_iadd, gr_invokevirtual, gr_iinc, gr_goto, fm_8_16, fm_8_17, gr_ificmp_eq, fm_8_18, gr_return, NI_41, ia_41, ln_41, al_41, gr_nil, pI_c, pR_c, oI_c, oR_c, lg_i, lg_l, lg_r, lg_n, kI_p, kI_m, lk_0, lk_s, ar_n, ar_c, if_true, if_false, List.replicate, Nat.reduceAdd, Nat.reduceSub, Nat.reduceLeDiff, Nat.reduceEqDiff, Nat.reduceLT, reduceIte, true_and, and_true, true_implies, false_implies, implies_true, eq_self, not_true_eq_false, not_false_eq_true, Bool.false_eq_true, reduceCtorEq, forall_const, List.headD_cons, Nat.zero_add, true_or, or_true, ne_eq, false_and, and_false, false_or, or_false, Nat.reduceBEq, Bool.false_and, Bool.and_false, Bool.or_false, Bool.false_or, Bool.and_self, Bool.true_and, Bool.and_true, Bool.or_self, z10, z01, zm0, nz1, nz0, cnt0])
        exact hq v (by rw [b2]; exact hv) hs
      · simp (disch := omega) only [nI_leI, nI_ltI, nI_eq, nI_add, pk_mul, nI_clamp, vp_nI, nI_lt0, nI_ge0, nI_eq0, nI_gt0, nI_le0, nI_neg1, neg1_nI, Nat.not_le, Nat.not_lt, if_true, if_false, true_and, and_true, true_implies, false_implies, implies_true, not_true_eq_false, not_false_eq_true, reduceIte, false_or, or_false, false_and, and_false, true_or, or_true] at z
    · (refine rb_M_tearsOff_3 ?_; simp only [bk_M_tearsOff_3, gr_iconst, gr_istoren, st1, clr_0, clr_s, sk_0, sk_s, gr_iloadn, gr_aloadn, gr_getfield, fm_8_13, NI_8, gr_ificmp_ge, fm_8_14, gr_imul, gr_iaload, gr_ificmp_ne, fm_8_15, gr_invokestatic, ps_0, ps_s, pu_n, pu_s, ct_0, ct_i, ct_l, ct_r, gr_ifCond_ne, gr_iadd, gr_invokevirtual, gr_iinc, gr_goto, fm_8_16, fm_8_17, gr_ificmp_eq, fm_8_18, gr_return, NI_41, ia_41, ln_41, al_41, gr_nil, pI_c, pR_c, oI_c, oR_c, lg_i, lg_l, lg_r, lg_n, kI_p, kI_m, lk_0, lk_s, ar_n, ar_c, if_true, if_false, List.replicate, Nat.reduceAdd, Nat.reduceSub, Nat.reduceLeDiff, Nat.reduceEqDiff, Nat.reduceLT, reduceIte, true_and, and_true, true_implies, false_implies, implies_true, eq_self, not_true_eq_false, not_false_eq_true, Bool.false_eq_true, reduceCtorEq, forall_const, List.headD_cons, Nat.zero_add, true_or, or_true, ne_eq, false_and, and_false, false_or, or_false, Nat.reduceBEq, Bool.false_and, Bool.and_false, Bool.or_false, Bool.false_or, Bool.and_self, Bool.true_and, Bool.and_true, Bool.or_self, z10, z01, zm0, nz1, nz0, cnt0, k16, k17, b1])
      simp (disch := omega) only [nI_leI, nI_ltI, nI_eq, nI_add, pk_mul, nI_clamp, vp_nI, nI_lt0, nI_ge0, nI_eq0, nI_gt0, nI_le0, nI_neg1, neg1_nI, Nat.not_le, Nat.not_lt, if_true, if_false, true_and, and_true, true_implies, false_implies, implies_true, not_true_eq_false, not_false_eq_true, reduceIte, false_or, or_false, false_and, and_false, true_or, or_true]
      refine ⟨fun e => ?_, fun e => ?_⟩
      · (refine rb_M_tearsOff_5 ?_; simp only [bk_M_tearsOff_5, gr_iconst, gr_istoren, st1, clr_0, clr_s, sk_0, sk_s, gr_iloadn, gr_aloadn, gr_getfield, fm_8_13, NI_8, gr_ificmp_ge, fm_8_14, gr_imul, gr_iaload, gr_ificmp_ne, fm_8_15, gr_invokestatic, ps_0, ps_s, pu_n, pu_s, ct_0, ct_i, ct_l, ct_r, gr_ifCond_ne, gr_iadd, gr_invokevirtual, gr_iinc, gr_goto, fm_8_16, fm_8_17, gr_ificmp_eq, fm_8_18, gr_return, NI_41, ia_41, ln_41, al_41, gr_nil, pI_c, pR_c, oI_c, oR_c, lg_i, lg_l, lg_r, lg_n, kI_p, kI_m, lk_0, lk_s, ar_n, ar_c, if_true, if_false, List.replicate, Nat.reduceAdd, Nat.reduceSub, Nat.reduceLeDiff, Nat.reduceEqDiff, Nat.reduceLT, reduceIte, true_and, and_true, true_implies, false_implies, implies_true, eq_self, not_true_eq_false, not_false_eq_true, Bool.false_eq_true, reduceCtorEq, forall_const, List.headD_cons, Nat.zero_add, true_or, or_true, ne_eq, false_and, and_false, false_or, or_false, Nat.reduceBEq, Bool.false_and, Bool.and_false, Bool.or_false, Bool.false_or, Bool.and_self, Bool.true_and, Bool.and_true, Bool.or_self, z10, z01, zm0, nz1, nz0, cnt0])
        exact hq v (by rw [b6, if_neg (by omega)]; exact hv) hs
      · have hb6 := b6 a w
        rw [if_pos (by omega)] at hb6
        rw [hb6] at hq
        have e5 : ∀ (v : Mem) (y : Option MV), PlM v (cs.foldl (fun w c => tearW c w) (tearsN td tc S.sp a m0 w)) → Sm FWM u v → RunB (d + 2) Y_M_tearsOff 5 [some (.inr (.inr (8, 0))), some (.inl (nI a)), y] [] v Q := by
          intro v y hv hs
          (refine rb_M_tearsOff_5 ?_; simp only [bk_M_tearsOff_5, gr_iconst, gr_istoren, st1, clr_0, clr_s, sk_0, sk_s, gr_iloadn, gr_aloadn, gr_getfield, fm_8_13, NI_8, gr_ificmp_ge, fm_8_14, gr_imul, gr_iaload, gr_ificmp_ne, fm_8_15, gr_invokestatic, ps_0, ps_s, pu_n, pu_s, ct_0, ct_i, ct_l, ct_r, gr_ifCond_ne, gr_iadd, gr_invokevirtual, gr_iinc, gr_goto, fm_8_16, fm_8_17, gr_ificmp_eq, fm_8_18, gr_return, NI_41, ia_41, ln_41, al_41, gr_nil, pI_c, pR_c, oI_c, oR_c, lg_i, lg_l, lg_r, lg_n, kI_p, kI_m, lk_0, lk_s, ar_n, ar_c, if_true, if_false, List.replicate, Nat.reduceAdd, Nat.reduceSub, Nat.reduceLeDiff, Nat.reduceEqDiff, Nat.reduceLT, reduceIte, true_and, and_true, true_implies, false_implies, implies_true, eq_self, not_true_eq_false, not_false_eq_true, Bool.false_eq_true, reduceCtorEq, forall_const, List.headD_cons, Nat.zero_add, true_or, or_true, ne_eq, false_and, and_false, false_or, or_false, Nat.reduceBEq, Bool.false_and, Bool.and_false, Bool.or_false, Bool.false_or, Bool.and_self, Bool.true_and, Bool.and_true, Bool.or_self, z10, z01, zm0, nz1, nz0, cnt0])
          exact hq v hv hs
        cases cs with
        | nil =>
          rw [b2]
          refine ⟨fun _ => ?_, fun z => absurd rfl z⟩
          (refine rb_M_tearsOff_4 ?_; simp only [bk_M_tearsOff_4, gr_iconst, gr_istoren, st1, clr_0, clr_s, sk_0, sk_s, gr_iloadn, gr_aloadn, gr_getfield, fm_8_13, NI_8, gr_ificmp_ge, fm_8_14, gr_imul, gr_iaload, gr_ificmp_ne, fm_8_15, gr_invokestatic, ps_0, ps_s, pu_n, pu_s, ct_0, ct_i, ct_l, ct_r, gr_ifCond_ne, gr_iadd, gr_invokevirtual, gr_iinc, gr_goto, fm_8_16, fm_8_17, gr_ificmp_eq, fm_8_18, gr_return, NI_41, ia_41, ln_41, al_41, gr_nil, pI_c, pR_c, oI_c, oR_c, lg_i, lg_l, lg_r, lg_n, kI_p, kI_m, lk_0, lk_s, ar_n, ar_c, if_true, if_false, List.replicate, Nat.reduceAdd, Nat.reduceSub, Nat.reduceLeDiff, Nat.reduceEqDiff, Nat.reduceLT, reduceIte, true_and, and_true, true_implies, false_implies, implies_true, eq_self, not_true_eq_false, not_false_eq_true, Bool.false_eq_true, reduceCtorEq, forall_const, List.headD_cons, Nat.zero_add, true_or, or_true, ne_eq, false_and, and_false, false_or, or_false, Nat.reduceBEq, Bool.false_and, Bool.and_false, Bool.or_false, Bool.false_or, Bool.and_self, Bool.true_and, Bool.and_true, Bool.or_self, z10, z01, zm0, nz1, nz0, cnt0, k18])
          rw [b3]
          exact ⟨fun _ => e5 v _ hv hs, fun z => absurd rfl z⟩
        | cons c1 r1 =>
          have hc1 := b4 c1 (by simp)
          rw [b2]
          refine ⟨fun z => absurd z (encT_no hc1), fun _ => ?_⟩
          refine c_M_isTorn hc1 hv (fun v2 hv2 hs2 => ?_)
          have k18' : rd v2 8 0 18 = rd u 8 0 18 := by rw [hs2.1 _ _ _ (by omega)]; exact k18
          simp only [gr_iconst, gr_istoren, st1, clr_0, clr_s, sk_0, sk_s, gr_iloadn, gr_aloadn, gr_getfield, fm_8_13, NI_8, gr_ificmp_ge, fm_8_14, gr_imul, gr_iaload, gr_ificmp_ne, fm_8_15, gr_invokestatic, ps_0, ps_s, pu_n, pu_s, ct_0, ct_i, ct_l, ct_r, gr_ifCond_ne, gr_iadd, gr_invokevirtual, gr_iinc, gr_goto, fm_8_16, fm_8_17, gr_ificmp_eq, fm_8_18, gr_return, NI_41, ia_41, ln_41, al_41, gr_nil, pI_c, pR_c, oI_c, oR_c, lg_i, lg_l, lg_r, lg_n, kI_p, kI_m, lk_0, lk_s, ar_n, ar_c, if_true, if_false, List.replicate, Nat.reduceAdd, Nat.reduceSub, Nat.reduceLeDiff, Nat.reduceEqDiff, Nat.reduceLT, reduceIte, true_and, and_true, true_implies, false_implies, implies_true, eq_self, not_true_eq_false, not_false_eq_true, Bool.false_eq_true, reduceCtorEq, forall_const, List.headD_cons, Nat.zero_add, true_or, or_true, ne_eq, false_and, and_false, false_or, or_false, Nat.reduceBEq, Bool.false_and, Bool.and_false, Bool.or_false, Bool.false_or, Bool.and_self, Bool.true_and, Bool.and_true, Bool.or_self, z10, z01, zm0, nz1, nz0, cnt0]
          (refine rb_M_tearsOff_4 ?_; simp only [bk_M_tearsOff_4, gr_iconst, gr_istoren, st1, clr_0, clr_s, sk_0, sk_s, gr_iloadn, gr_aloadn, gr_getfield, fm_8_13, NI_8, gr_ificmp_ge, fm_8_14, gr_imul, gr_iaload, gr_ificmp_ne, fm_8_15, gr_invokestatic, ps_0, ps_s, pu_n, pu_s, ct_0, ct_i, ct_l, ct_r, gr_ifCond_ne, gr_iadd, gr_invokevirtual, gr_iinc, gr_goto, fm_8_16, fm_8_17, gr_ificmp_eq, fm_8_18, gr_return, NI_41, ia_41, ln_41, al_41, gr_nil, pI_c, pR_c, oI_c, oR_c, lg_i, lg_l, lg_r, lg_n, kI_p, kI_m, lk_0, lk_s, ar_n, ar_c, if_true, if_false, List.replicate, Nat.reduceAdd, Nat.reduceSub, Nat.reduceLeDiff, Nat.reduceEqDiff, Nat.reduceLT, reduceIte, true_and, and_true, true_implies, false_implies, implies_true, eq_self, not_true_eq_false, not_false_eq_true, Bool.false_eq_true, reduceCtorEq, forall_const, List.headD_cons, Nat.zero_add, true_or, or_true, ne_eq, false_and, and_false, false_or, or_false, Nat.reduceBEq, Bool.false_and, Bool.and_false, Bool.or_false, Bool.false_or, Bool.and_self, Bool.true_and, Bool.and_true, Bool.or_self, z10, z01, zm0, nz1, nz0, cnt0, k18'])
          rw [b3]
          cases r1 with
          | nil => exact ⟨fun _ => e5 v2 _ hv2 (hs.tr hs2), fun z => absurd rfl z⟩
          | cons c2 r2 =>
            have hc2 := b4 c2 (by simp)
            have hr2 : r2 = [] := by
              cases r2 with
              | nil => rfl
              | cons x y => simp at b5
            subst hr2
            refine ⟨fun z => absurd z (encT_no hc2), fun _ => ?_⟩
            refine c_M_isTorn hc2 hv2 (fun v3 hv3 hs3 => ?_)
            simp only [gr_iconst, gr_istoren, st1, clr_0, clr_s, sk_0, sk_s, gr_iloadn, gr_aloadn, gr_getfield, fm_8_13, NI_8, gr_ificmp_ge, fm_8_14, gr_imul, gr_iaload, gr_ificmp_ne, fm_8_15, gr_invokestatic, ps_0, ps_s, pu_n, pu_s, ct_0, ct_i, ct_l, ct_r, gr_ifCond_ne, gr_iadd, gr_invokevirtual, gr_iinc, gr_goto, fm_8_16, fm_8_17, gr_ificmp_eq, fm_8_18, gr_return, NI_41, ia_41, ln_41, al_41, gr_nil, pI_c, pR_c, oI_c, oR_c, lg_i, lg_l, lg_r, lg_n, kI_p, kI_m, lk_0, lk_s, ar_n, ar_c, if_true, if_false, List.replicate, Nat.reduceAdd, Nat.reduceSub, Nat.reduceLeDiff, Nat.reduceEqDiff, Nat.reduceLT, reduceIte, true_and, and_true, true_implies, false_implies, implies_true, eq_self, not_true_eq_false, not_false_eq_true, Bool.false_eq_true, reduceCtorEq, forall_const, List.headD_cons, Nat.zero_add, true_or, or_true, ne_eq, false_and, and_false, false_or, or_false, Nat.reduceBEq, Bool.false_and, Bool.and_false, Bool.or_false, Bool.false_or, Bool.and_self, Bool.true_and, Bool.and_true, Bool.or_self, z10, z01, zm0, nz1, nz0, cnt0]
            exact e5 v3 _ hv3 ((hs.tr hs2).tr hs3)
  have loop : ∀ (n i : Nat) (v : Mem), i + n = m0 → PlM v (tearsN td tc S.sp a i w) → Sm FWM u v → RunB (d + 2) Y_M_tearsOff 1 [some (.inr (.inr (8, 0))), some (.inl (nI a)), some (.inl (nI i))] [] v Q := by
    intro n
    induction n with
    | zero =>
      intro i v hi hv hs
      have h13 : rd v 8 0 13 = nI m0 := by rw [hs.1 _ _ _ (by omega)]; exact a1
      (refine rb_M_tearsOff_1 ?_; simp only [bk_M_tearsOff_1, gr_iconst, gr_istoren, st1, clr_0, clr_s, sk_0, sk_s, gr_iloadn, gr_aloadn, gr_getfield, fm_8_13, NI_8, gr_ificmp_ge, fm_8_14, gr_imul, gr_iaload, gr_ificmp_ne, fm_8_15, gr_invokestatic, ps_0, ps_s, pu_n, pu_s, ct_0, ct_i, ct_l, ct_r, gr_ifCond_ne, gr_iadd, gr_invokevirtual, gr_iinc, gr_goto, fm_8_16, fm_8_17, gr_ificmp_eq, fm_8_18, gr_return, NI_41, ia_41, ln_41, al_41, gr_nil, pI_c, pR_c, oI_c, oR_c, lg_i, lg_l, lg_r, lg_n, kI_p, kI_m, lk_0, lk_s, ar_n, ar_c, if_true, if_false, List.replicate, Nat.reduceAdd, Nat.reduceSub, Nat.reduceLeDiff, Nat.reduceEqDiff, Nat.reduceLT, reduceIte, true_and, and_true, true_implies, false_implies, implies_true, eq_self, not_true_eq_false, not_false_eq_true, Bool.false_eq_true, reduceCtorEq, forall_const, List.headD_cons, Nat.zero_add, true_or, or_true, ne_eq, false_and, and_false, false_or, or_false, Nat.reduceBEq, Bool.false_and, Bool.and_false, Bool.or_false, Bool.false_or, Bool.and_self, Bool.true_and, Bool.and_true, Bool.or_self, z10, z01, zm0, nz1, nz0, cnt0, h13])
      refine ⟨fun _ => ?_, fun h => absurd (nI_le (by omega) (by omega)) h⟩
      exact fin v _ (by rwa [show i = m0 by omega] at hv) hs
    | succ n ih =>
      intro i v hi hv hs
      obtain ⟨t1, t2, t3, t4⟩ := a3 i (by omega)
      have h13 : rd v 8 0 13 = nI m0 := by rw [hs.1 _ _ _ (by omega)]; exact a1
      have h15 : rd v 8 0 15 = rd u 8 0 15 := hs.1 _ _ _ (by omega)
      have h41 : ∀ j, rd v 41 0 j = rd u 41 0 j := fun j => hs.1 _ _ _ (by omega)
      have ih' : ∀ v, PlM v (tearsN td tc S.sp a (i + 1) w) → Sm FWM u v → RunB (d + 2) Y_M_tearsOff 2 [some (.inr (.inr (8, 0))), some (.inl (nI a)), some (.inl (nI i))] [] v Q := by
        intro v hv hs
        (refine rb_M_tearsOff_2 ?_; simp only [bk_M_tearsOff_2, gr_iconst, gr_istoren, st1, clr_0, clr_s, sk_0, sk_s, gr_iloadn, gr_aloadn, gr_getfield, fm_8_13, NI_8, gr_ificmp_ge, fm_8_14, gr_imul, gr_iaload, gr_ificmp_ne, fm_8_15, gr_invokestatic, ps_0, ps_s, pu_n, pu_s, ct_0, ct_i, ct_l, ct_r, gr_ifCond_ne, gr_iadd, gr_invokevirtual, gr_iinc, gr_goto, fm_8_16, fm_8_17, gr_ificmp_eq, fm_8_18, gr_return, NI_41, ia_41, ln_41, al_41, gr_nil, pI_c, pR_c, oI_c, oR_c, lg_i, lg_l, lg_r, lg_n, kI_p, kI_m, lk_0, lk_s, ar_n, ar_c, if_true, if_false, List.replicate, Nat.reduceAdd, Nat.reduceSub, Nat.reduceLeDiff, Nat.reduceEqDiff, Nat.reduceLT, reduceIte, true_and, and_true, true_implies, false_implies, implies_true, eq_self, not_true_eq_false, not_false_eq_true, Bool.false_eq_true, reduceCtorEq, forall_const, List.headD_cons, Nat.zero_add, true_or, or_true, ne_eq, false_and, and_false, false_or, or_false, Nat.reduceBEq, Bool.false_and, Bool.and_false, Bool.or_false, Bool.false_or, Bool.and_self, Bool.true_and, Bool.and_true, Bool.or_self, z10, z01, zm0, nz1, nz0, cnt0])
        rw [nI_add]
        exact ih (i + 1) v (by omega) hv hs
      simp only [tearsN] at ih'
      have a4i := a4 i (by omega)
      (refine rb_M_tearsOff_1 ?_; simp only [bk_M_tearsOff_1, gr_iconst, gr_istoren, st1, clr_0, clr_s, sk_0, sk_s, gr_iloadn, gr_aloadn, gr_getfield, fm_8_13, NI_8, gr_ificmp_ge, fm_8_14, gr_imul, gr_iaload, gr_ificmp_ne, fm_8_15, gr_invokestatic, ps_0, ps_s, pu_n, pu_s, ct_0, ct_i, ct_l, ct_r, gr_ifCond_ne, gr_iadd, gr_invokevirtual, gr_iinc, gr_goto, fm_8_16, fm_8_17, gr_ificmp_eq, fm_8_18, gr_return, NI_41, ia_41, ln_41, al_41, gr_nil, pI_c, pR_c, oI_c, oR_c, lg_i, lg_l, lg_r, lg_n, kI_p, kI_m, lk_0, lk_s, ar_n, ar_c, if_true, if_false, List.replicate, Nat.reduceAdd, Nat.reduceSub, Nat.reduceLeDiff, Nat.reduceEqDiff, Nat.reduceLT, reduceIte, true_and, and_true, true_implies, false_implies, implies_true, eq_self, not_true_eq_false, not_false_eq_true, Bool.false_eq_true, reduceCtorEq, forall_const, List.headD_cons, Nat.zero_add, true_or, or_true, ne_eq, false_and, and_false, false_or, or_false, Nat.reduceBEq, Bool.false_and, Bool.and_false, Bool.or_false, Bool.false_or, Bool.and_self, Bool.true_and, Bool.and_true, Bool.or_self, z10, z01, zm0, nz1, nz0, cnt0, h13, h15])
      refine ⟨fun h => absurd h (nI_ge (by omega) (by omega)), fun _ => ?_⟩
      simp (disch := omega) only [nI_leI, nI_ltI, nI_eq, nI_add, pk_mul, nI_clamp, vp_nI, nI_lt0, nI_ge0, nI_eq0, nI_gt0, nI_le0, nI_neg1, neg1_nI, Nat.not_le, Nat.not_lt, if_true, if_false, true_and, and_true, true_implies, false_implies, implies_true, not_true_eq_false, not_false_eq_true, reduceIte, false_or, or_false, false_and, and_false, true_or, or_true, h41, t1, t2]
      refine ⟨by omega, fun e => ?_, fun e => ?_⟩
      · rw [if_neg (by omega)] at ih'
        exact ih' v hv hs
      · refine c_M_isIn (fun z => ?_) (fun z => ?_)
        · simp only [gr_iconst, gr_istoren, st1, clr_0, clr_s, sk_0, sk_s, gr_iloadn, gr_aloadn, gr_getfield, fm_8_13, NI_8, gr_ificmp_ge, fm_8_14, gr_imul, gr_iaload, gr_ificmp_ne, fm_8_15, gr_invokestatic, ps_0, ps_s, pu_n, pu_s, ct_0, ct_i, ct_l, ct_r, gr_ifCond_ne, gr_iadd, gr_invokevirtual, gr_iinc, gr_goto, fm_8_16, fm_8_17, gr_ificmp_eq, fm_8_18, gr_return, NI_41, ia_41, ln_41, al_41, gr_nil, pI_c, pR_c, oI_c, oR_c, lg_i, lg_l, lg_r, lg_n, kI_p, kI_m, lk_0, lk_s, ar_n, ar_c, if_true, if_false, List.replicate, Nat.reduceAdd, Nat.reduceSub, Nat.reduceLeDiff, Nat.reduceEqDiff, Nat.reduceLT, reduceIte, true_and, and_true, true_implies, false_implies, implies_true, eq_self, not_true_eq_false, not_false_eq_true, Bool.false_eq_true, reduceCtorEq, forall_const, List.headD_cons, Nat.zero_add, true_or, or_true, ne_eq, false_and, and_false, false_or, or_false, Nat.reduceBEq, Bool.false_and, Bool.and_false, Bool.or_false, Bool.false_or, Bool.and_self, Bool.true_and, Bool.and_true, Bool.or_self, z10, z01, zm0, nz1, nz0, cnt0]
          have := a4i.mp z
          rw [if_neg (fun q => q.2 this)] at ih'
          exact ih' v hv hs
        · simp only [gr_iconst, gr_istoren, st1, clr_0, clr_s, sk_0, sk_s, gr_iloadn, gr_aloadn, gr_getfield, fm_8_13, NI_8, gr_ificmp_ge, fm_8_14, gr_imul, gr_iaload, gr_ificmp_ne, fm_8_15, gr_invokestatic, ps_0, ps_s, pu_n, pu_s, ct_0, ct_i, ct_l, ct_r, gr_ifCond_ne, gr_iadd, gr_invokevirtual, gr_iinc, gr_goto, fm_8_16, fm_8_17, gr_ificmp_eq, fm_8_18, gr_return, NI_41, ia_41, ln_41, al_41, gr_nil, pI_c, pR_c, oI_c, oR_c, lg_i, lg_l, lg_r, lg_n, kI_p, kI_m, lk_0, lk_s, ar_n, ar_c, if_true, if_false, List.replicate, Nat.reduceAdd, Nat.reduceSub, Nat.reduceLeDiff, Nat.reduceEqDiff, Nat.reduceLT, reduceIte, true_and, and_true, true_implies, false_implies, implies_true, eq_self, not_true_eq_false, not_false_eq_true, Bool.false_eq_true, reduceCtorEq, forall_const, List.headD_cons, Nat.zero_add, true_or, or_true, ne_eq, false_and, and_false, false_or, or_false, Nat.reduceBEq, Bool.false_and, Bool.and_false, Bool.or_false, Bool.false_or, Bool.and_self, Bool.true_and, Bool.and_true, Bool.or_self, z10, z01, zm0, nz1, nz0, cnt0]
          rw [if_pos ⟨by omega, fun q => z (a4i.mpr q)⟩] at ih'
          simp (disch := omega) only [nI_leI, nI_ltI, nI_eq, nI_add, pk_mul, nI_clamp, vp_nI, nI_lt0, nI_ge0, nI_eq0, nI_gt0, nI_le0, nI_neg1, neg1_nI, Nat.not_le, Nat.not_lt, if_true, if_false, true_and, and_true, true_implies, false_implies, implies_true, not_true_eq_false, not_false_eq_true, reduceIte, false_or, or_false, false_and, and_false, true_or, or_true, h41, t2]
          refine ⟨by omega, ?_⟩
          refine c_M_isTorn t4 hv (fun v2 hv2 hs2 => ?_)
          simp only [gr_iconst, gr_istoren, st1, clr_0, clr_s, sk_0, sk_s, gr_iloadn, gr_aloadn, gr_getfield, fm_8_13, NI_8, gr_ificmp_ge, fm_8_14, gr_imul, gr_iaload, gr_ificmp_ne, fm_8_15, gr_invokestatic, ps_0, ps_s, pu_n, pu_s, ct_0, ct_i, ct_l, ct_r, gr_ifCond_ne, gr_iadd, gr_invokevirtual, gr_iinc, gr_goto, fm_8_16, fm_8_17, gr_ificmp_eq, fm_8_18, gr_return, NI_41, ia_41, ln_41, al_41, gr_nil, pI_c, pR_c, oI_c, oR_c, lg_i, lg_l, lg_r, lg_n, kI_p, kI_m, lk_0, lk_s, ar_n, ar_c, if_true, if_false, List.replicate, Nat.reduceAdd, Nat.reduceSub, Nat.reduceLeDiff, Nat.reduceEqDiff, Nat.reduceLT, reduceIte, true_and, and_true, true_implies, false_implies, implies_true, eq_self, not_true_eq_false, not_false_eq_true, Bool.false_eq_true, reduceCtorEq, forall_const, List.headD_cons, Nat.zero_add, true_or, or_true, ne_eq, false_and, and_false, false_or, or_false, Nat.reduceBEq, Bool.false_and, Bool.and_false, Bool.or_false, Bool.false_or, Bool.and_self, Bool.true_and, Bool.and_true, Bool.or_self, z10, z01, zm0, nz1, nz0, cnt0]
          exact ih' v2 hv2 (hs.tr hs2)
  exact loop m0 0 u (by omega) hp Sm.rf
