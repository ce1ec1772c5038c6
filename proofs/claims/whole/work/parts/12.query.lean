def obN (V f : Nat → Int32) : Nat → Bool
  | 0 => true
  | c + 1 => obN V f c && (decide (V c = -nI 1) || decide (V c = f c))
def obB (V : Nat → Int32) (lc : Nat) (f : Nat → Int32) : Bool := decide (lc ≠ 0) && obN V f 6
theorem obN_mono (V f : Nat → Int32) : ∀ n k, obN V f k = false → k ≤ n → obN V f n = false := by
  intro n
  induction n with
  | zero => intro k h hk; rw [show k = 0 by omega] at h; exact h
  | succ n ih =>
    intro k h hk
    by_cases e : k = n + 1
    · rw [← e]; exact h
    · simp only [obN, ih k h (by omega), Bool.false_and]
def dO (V : Nat → Int32) (lc : Nat) (F : Nat → Nat → Nat → Int32) : Nat → Nat
  | 0 => 0
  | a + 1 => dO V lc F a + (if obB V lc (fun c => F a c 0) = true then 1 else 0)
def rdN (F : Nat → Nat → Nat → Int32) (a : Nat) (x : Int32) : Nat → Bool
  | 0 => false
  | c + 1 => rdN F a x c || (decide (F a c 1 = x) && !decide (F a c 0 = -nI 1))
theorem rdN_mono (F : Nat → Nat → Nat → Int32) (a : Nat) (x : Int32) : ∀ n k, rdN F a x k = true → k ≤ n → rdN F a x n = true := by
  intro n
  induction n with
  | zero => intro k h hk; rw [show k = 0 by omega] at h; exact h
  | succ n ih =>
    intro k h hk
    by_cases e : k = n + 1
    · rw [← e]; exact h
    · simp only [rdN, ih k h (by omega), Bool.true_or]
def dR (F : Nat → Nat → Nat → Int32) (x : Int32) : Nat → Nat
  | 0 => 0
  | a + 1 => dR F x a + (if rdN F a x 6 = true then 1 else 0)
def ubN (F : Nat → Nat → Nat → Int32) : Nat → Int32
  | 0 => nI 0
  | k + 1 => if dR F (nI k) 20 = 0 then ubN F k ||| (nI 1 <<< (nI k &&& 31)) else ubN F k
def Lw (u : Mem) (V : Nat → Int32) (lc : Nat) : Prop := (∀ c, c < 6 → rd u 15 0 c = V c) ∧ rd u 2 0 7 = nI lc ∧ lc ≤ 6
theorem Lw.keep {u v : Mem} {V : Nat → Int32} {lc : Nat} (h : Lw u V lc) (hv : ∀ c i j, (c = 2 ∨ c = 15) → rd v c i j = rd u c i j) : Lw v V lc := ⟨fun c hc => by rw [hv _ _ _ (Or.inr rfl)]; exact h.1 c hc, by rw [hv _ _ _ (Or.inl rfl)]; exact h.2.1, h.2.2⟩
theorem Lw.sm {u v : Mem} {V : Nat → Int32} {lc t : Nat} (h : Lw u V lc) (hs : Sm (FP t) u v) : Lw v V lc := h.keep fun c i j hc => hs.1 c i j (by rintro ⟨h1, -⟩; omega)
/-- the facts of stage t, of the first b days -/
def FT (u : Mem) (t b : Nat) (F : Nat → Nat → Nat → Int32) : Prop := ∀ a, a < b → ∀ c, c < 6 → ∀ k, k < 6 → rd u 22 t ((a * 6 + c) * 6 + k) = F a c k
theorem dO_le (V : Nat → Int32) (lc : Nat) (F : Nat → Nat → Nat → Int32) : ∀ a, dO V lc F a ≤ a := by
  intro a
  induction a with
  | zero => exact Nat.le_refl _
  | succ a ih => simp only [dO]; split <;> omega
theorem dR_le (F : Nat → Nat → Nat → Int32) (x : Int32) : ∀ a, dR F x a ≤ a := by
  intro a
  induction a with
  | zero => exact Nat.le_refl _
  | succ a ih => simp only [dR]; split <;> omega
set_option maxHeartbeats 4000000 in
set_option maxRecDepth 100000 in
theorem c_T_obeys {d t a lc : Nat} {V : Nat → Int32} {F : Nat → Int32} {u : Mem} {Q : Option MV → Mem → Prop} (ht : t < 2) (ha : a < 20) (hl : Lw u V lc) (hF : ∀ c, c < 6 → rd u 22 t ((a * 6 + c) * 6 + 0) = F c) (h1 : obB V lc F = true → Q (some (.inl (nI 1))) u) (h0 : obB V lc F = false → Q (some (.inl (nI 0))) u) : OKm (d + 3) g_T_obeys [.inr (.inr (5, t)), .inl (nI a)] u Q := by
  have h7 := hl.2.1
  have hlc := hl.2.2
  refine en_T_obeys _ (Nat.le_of_ble_eq_true rfl) (rb_T_obeys_0 ?_)
  simp only [bk_T_obeys_0, gr_aloadn, gr_getfield, fm_5_0, NI_5, fm_2_7, NI_2, gr_ifCond_ne, gr_iconst, gr_ireturn, gr_istoren, st1, clr_0, clr_s, sk_0, sk_s, gr_iloadn, gr_bipush, gr_ificmp_ge, fm_2_2, gr_iaload, gr_ificmp_eq, gr_invokevirtual, ps_0, ps_s, pu_n, pu_s, ct_0, ct_i, ct_l, ct_r, gr_iinc, gr_goto, NI_15, ia_15, ln_15, al_15, gr_nil, pI_c, pR_c, oI_c, oR_c, lg_i, lg_l, lg_r, lg_n, kI_p, kI_m, lk_0, lk_s, ar_n, ar_c, if_true, if_false, List.replicate, Nat.reduceAdd, Nat.reduceSub, Nat.reduceLeDiff, Nat.reduceEqDiff, Nat.reduceLT, reduceIte, true_and, and_true, true_implies, false_implies, implies_true, eq_self, not_true_eq_false, not_false_eq_true, Bool.false_eq_true, reduceCtorEq, forall_const, List.headD_cons, Nat.zero_add, true_or, or_true, ne_eq, false_and, and_false, false_or, or_false, Nat.reduceBEq, Bool.false_and, Bool.and_false, Bool.or_false, Bool.false_or, Bool.and_self, Bool.true_and, Bool.and_true, Bool.or_self, z10, z01, zm0, nz1, nz0, cnt0, ht, h7]
  simp (disch := omega) only [nI_leI, nI_ltI, nI_eq, nI_add, pk_mul, nI_clamp, vp_nI, nI_lt0, nI_ge0, nI_eq0, nI_gt0, nI_le0, nI_neg1, neg1_nI, Nat.not_le, Nat.not_lt, if_true, if_false, true_and, and_true, true_implies, false_implies, implies_true, not_true_eq_false, not_false_eq_true, reduceIte, false_or, or_false, false_and, and_false, true_or, or_true]
  refine ⟨fun hz => ?_, fun hz => h0 (by simp [obB, hz])⟩
  (refine rb_T_obeys_1 ?_; simp only [bk_T_obeys_1, gr_aloadn, gr_getfield, fm_5_0, NI_5, fm_2_7, NI_2, gr_ifCond_ne, gr_iconst, gr_ireturn, gr_istoren, st1, clr_0, clr_s, sk_0, sk_s, gr_iloadn, gr_bipush, gr_ificmp_ge, fm_2_2, gr_iaload, gr_ificmp_eq, gr_invokevirtual, ps_0, ps_s, pu_n, pu_s, ct_0, ct_i, ct_l, ct_r, gr_iinc, gr_goto, NI_15, ia_15, ln_15, al_15, gr_nil, pI_c, pR_c, oI_c, oR_c, lg_i, lg_l, lg_r, lg_n, kI_p, kI_m, lk_0, lk_s, ar_n, ar_c, if_true, if_false, List.replicate, Nat.reduceAdd, Nat.reduceSub, Nat.reduceLeDiff, Nat.reduceEqDiff, Nat.reduceLT, reduceIte, true_and, and_true, true_implies, false_implies, implies_true, eq_self, not_true_eq_false, not_false_eq_true, Bool.false_eq_true, reduceCtorEq, forall_const, List.headD_cons, Nat.zero_add, true_or, or_true, ne_eq, false_and, and_false, false_or, or_false, Nat.reduceBEq, Bool.false_and, Bool.and_false, Bool.or_false, Bool.false_or, Bool.and_self, Bool.true_and, Bool.and_true, Bool.or_self, z10, z01, zm0, nz1, nz0, cnt0])
  have loop : ∀ (n i : Nat) (y : Option MV), i + n = 6 → obN V F i = true → RunB (d + 3) Y_T_obeys 2 [some (.inr (.inr (5, t))), some (.inl (nI a)), some (.inl (nI i)), y] [] u Q := by
    intro n
    induction n with
    | zero =>
      intro i y hi hb
      (refine rb_T_obeys_2 ?_; simp only [bk_T_obeys_2, gr_aloadn, gr_getfield, fm_5_0, NI_5, fm_2_7, NI_2, gr_ifCond_ne, gr_iconst, gr_ireturn, gr_istoren, st1, clr_0, clr_s, sk_0, sk_s, gr_iloadn, gr_bipush, gr_ificmp_ge, fm_2_2, gr_iaload, gr_ificmp_eq, gr_invokevirtual, ps_0, ps_s, pu_n, pu_s, ct_0, ct_i, ct_l, ct_r, gr_iinc, gr_goto, NI_15, ia_15, ln_15, al_15, gr_nil, pI_c, pR_c, oI_c, oR_c, lg_i, lg_l, lg_r, lg_n, kI_p, kI_m, lk_0, lk_s, ar_n, ar_c, if_true, if_false, List.replicate, Nat.reduceAdd, Nat.reduceSub, Nat.reduceLeDiff, Nat.reduceEqDiff, Nat.reduceLT, reduceIte, true_and, and_true, true_implies, false_implies, implies_true, eq_self, not_true_eq_false, not_false_eq_true, Bool.false_eq_true, reduceCtorEq, forall_const, List.headD_cons, Nat.zero_add, true_or, or_true, ne_eq, false_and, and_false, false_or, or_false, Nat.reduceBEq, Bool.false_and, Bool.and_false, Bool.or_false, Bool.false_or, Bool.and_self, Bool.true_and, Bool.and_true, Bool.or_self, z10, z01, zm0, nz1, nz0, cnt0, ht])
      refine ⟨fun _ => ?_, fun h => absurd (nI_le (by omega) (by omega)) h⟩
      (refine rb_T_obeys_4 ?_; simp only [bk_T_obeys_4, gr_aloadn, gr_getfield, fm_5_0, NI_5, fm_2_7, NI_2, gr_ifCond_ne, gr_iconst, gr_ireturn, gr_istoren, st1, clr_0, clr_s, sk_0, sk_s, gr_iloadn, gr_bipush, gr_ificmp_ge, fm_2_2, gr_iaload, gr_ificmp_eq, gr_invokevirtual, ps_0, ps_s, pu_n, pu_s, ct_0, ct_i, ct_l, ct_r, gr_iinc, gr_goto, NI_15, ia_15, ln_15, al_15, gr_nil, pI_c, pR_c, oI_c, oR_c, lg_i, lg_l, lg_r, lg_n, kI_p, kI_m, lk_0, lk_s, ar_n, ar_c, if_true, if_false, List.replicate, Nat.reduceAdd, Nat.reduceSub, Nat.reduceLeDiff, Nat.reduceEqDiff, Nat.reduceLT, reduceIte, true_and, and_true, true_implies, false_implies, implies_true, eq_self, not_true_eq_false, not_false_eq_true, Bool.false_eq_true, reduceCtorEq, forall_const, List.headD_cons, Nat.zero_add, true_or, or_true, ne_eq, false_and, and_false, false_or, or_false, Nat.reduceBEq, Bool.false_and, Bool.and_false, Bool.or_false, Bool.false_or, Bool.and_self, Bool.true_and, Bool.and_true, Bool.or_self, z10, z01, zm0, nz1, nz0, cnt0])
      rw [show i = 6 by omega] at hb
      exact h1 (by simp [obB, hz, hb])
    | succ n ih =>
      intro i y hi hb
      have hi6 : i < 6 := by omega
      have nxt : ∀ y, obN V F (i + 1) = true → RunB (d + 3) Y_T_obeys 3 [some (.inr (.inr (5, t))), some (.inl (nI a)), some (.inl (nI i)), y] [] u Q := by
        intro y hb'
        (refine rb_T_obeys_3 ?_; simp only [bk_T_obeys_3, gr_aloadn, gr_getfield, fm_5_0, NI_5, fm_2_7, NI_2, gr_ifCond_ne, gr_iconst, gr_ireturn, gr_istoren, st1, clr_0, clr_s, sk_0, sk_s, gr_iloadn, gr_bipush, gr_ificmp_ge, fm_2_2, gr_iaload, gr_ificmp_eq, gr_invokevirtual, ps_0, ps_s, pu_n, pu_s, ct_0, ct_i, ct_l, ct_r, gr_iinc, gr_goto, NI_15, ia_15, ln_15, al_15, gr_nil, pI_c, pR_c, oI_c, oR_c, lg_i, lg_l, lg_r, lg_n, kI_p, kI_m, lk_0, lk_s, ar_n, ar_c, if_true, if_false, List.replicate, Nat.reduceAdd, Nat.reduceSub, Nat.reduceLeDiff, Nat.reduceEqDiff, Nat.reduceLT, reduceIte, true_and, and_true, true_implies, false_implies, implies_true, eq_self, not_true_eq_false, not_false_eq_true, Bool.false_eq_true, reduceCtorEq, forall_const, List.headD_cons, Nat.zero_add, true_or, or_true, ne_eq, false_and, and_false, false_or, or_false, Nat.reduceBEq, Bool.false_and, Bool.and_false, Bool.or_false, Bool.false_or, Bool.and_self, Bool.true_and, Bool.and_true, Bool.or_self, z10, z01, zm0, nz1, nz0, cnt0])
        rw [nI_add]
        exact ih (i + 1) y (by omega) hb'
      (refine rb_T_obeys_2 ?_; simp only [bk_T_obeys_2, gr_aloadn, gr_getfield, fm_5_0, NI_5, fm_2_7, NI_2, gr_ifCond_ne, gr_iconst, gr_ireturn, gr_istoren, st1, clr_0, clr_s, sk_0, sk_s, gr_iloadn, gr_bipush, gr_ificmp_ge, fm_2_2, gr_iaload, gr_ificmp_eq, gr_invokevirtual, ps_0, ps_s, pu_n, pu_s, ct_0, ct_i, ct_l, ct_r, gr_iinc, gr_goto, NI_15, ia_15, ln_15, al_15, gr_nil, pI_c, pR_c, oI_c, oR_c, lg_i, lg_l, lg_r, lg_n, kI_p, kI_m, lk_0, lk_s, ar_n, ar_c, if_true, if_false, List.replicate, Nat.reduceAdd, Nat.reduceSub, Nat.reduceLeDiff, Nat.reduceEqDiff, Nat.reduceLT, reduceIte, true_and, and_true, true_implies, false_implies, implies_true, eq_self, not_true_eq_false, not_false_eq_true, Bool.false_eq_true, reduceCtorEq, forall_const, List.headD_cons, Nat.zero_add, true_or, or_true, ne_eq, false_and, and_false, false_or, or_false, Nat.reduceBEq, Bool.false_and, Bool.and_false, Bool.or_false, Bool.false_or, Bool.and_self, Bool.true_and, Bool.and_true, Bool.or_self, z10, z01, zm0, nz1, nz0, cnt0, ht])
      simp (disch := omega) only [nI_leI, nI_ltI, nI_eq, nI_add, pk_mul, nI_clamp, vp_nI, nI_lt0, nI_ge0, nI_eq0, nI_gt0, nI_le0, nI_neg1, neg1_nI, Nat.not_le, Nat.not_lt, if_true, if_false, true_and, and_true, true_implies, false_implies, implies_true, not_true_eq_false, not_false_eq_true, reduceIte, false_or, or_false, false_and, and_false, true_or, or_true, hl.1 i hi6]
      by_cases e1 : V i = -nI 1
      · (repeat' first | with_reducible intro _ | with_reducible apply And.intro) <;> try omega
        · exact nxt _ (by simp [obN, hb, e1])
        · exact absurd e1 ‹_›
      · (repeat' first | with_reducible intro _ | with_reducible apply And.intro) <;> try omega
        · exact absurd ‹_› e1
        · refine c_T_fact ht ha hi6 (by omega) ?_
          simp only [gr_aloadn, gr_getfield, fm_5_0, NI_5, fm_2_7, NI_2, gr_ifCond_ne, gr_iconst, gr_ireturn, gr_istoren, st1, clr_0, clr_s, sk_0, sk_s, gr_iloadn, gr_bipush, gr_ificmp_ge, fm_2_2, gr_iaload, gr_ificmp_eq, gr_invokevirtual, ps_0, ps_s, pu_n, pu_s, ct_0, ct_i, ct_l, ct_r, gr_iinc, gr_goto, NI_15, ia_15, ln_15, al_15, gr_nil, pI_c, pR_c, oI_c, oR_c, lg_i, lg_l, lg_r, lg_n, kI_p, kI_m, lk_0, lk_s, ar_n, ar_c, if_true, if_false, List.replicate, Nat.reduceAdd, Nat.reduceSub, Nat.reduceLeDiff, Nat.reduceEqDiff, Nat.reduceLT, reduceIte, true_and, and_true, true_implies, false_implies, implies_true, eq_self, not_true_eq_false, not_false_eq_true, Bool.false_eq_true, reduceCtorEq, forall_const, List.headD_cons, Nat.zero_add, true_or, or_true, ne_eq, false_and, and_false, false_or, or_false, Nat.reduceBEq, Bool.false_and, Bool.and_false, Bool.or_false, Bool.false_or, Bool.and_self, Bool.true_and, Bool.and_true, Bool.or_self, z10, z01, zm0, nz1, nz0, cnt0]
          rw [show rd u 22 t ((a * 6 + i) * 6) = F i from hF i hi6]
          refine ⟨fun e2 => nxt _ (by simp [obN, hb, e2]), fun e2 => h0 ?_⟩
          simp only [obB, obN_mono V F 6 (i + 1) (by simp [obN, hb, e1, e2]) (by omega), Bool.and_false]
  exact loop 6 0 _ (by omega) rfl
set_option maxHeartbeats 4000000 in
set_option maxRecDepth 100000 in
theorem c_T_daysObeyed {d t lc : Nat} {V : Nat → Int32} {F : Nat → Nat → Nat → Int32} {u : Mem} {Q : Option MV → Mem → Prop} (ht : t < 2) (hl : Lw u V lc) (hF : FT u t 20 F) (hq : Q (some (.inl (nI (dO V lc F 20)))) u) : OKm (d + 4) g_T_daysObeyed [.inr (.inr (5, t))] u Q := by
  refine en_T_daysObeyed _ (Nat.le_of_ble_eq_true rfl) (rb_T_daysObeyed_0 ?_)
  simp only [bk_T_daysObeyed_0, gr_iconst, gr_istoren, st1, clr_0, clr_s, sk_0, sk_s, gr_iloadn, gr_bipush, gr_ificmp_ge, gr_aloadn, gr_invokevirtual, NI_5, ps_0, ps_s, pu_n, pu_s, ct_0, ct_i, ct_l, ct_r, gr_ifCond_eq, gr_iinc, gr_goto, gr_ireturn, gr_nil, pI_c, pR_c, oI_c, oR_c, lg_i, lg_l, lg_r, lg_n, kI_p, kI_m, lk_0, lk_s, ar_n, ar_c, if_true, if_false, List.replicate, Nat.reduceAdd, Nat.reduceSub, Nat.reduceLeDiff, Nat.reduceEqDiff, Nat.reduceLT, reduceIte, true_and, and_true, true_implies, false_implies, implies_true, eq_self, not_true_eq_false, not_false_eq_true, Bool.false_eq_true, reduceCtorEq, forall_const, List.headD_cons, Nat.zero_add, true_or, or_true, ne_eq, false_and, and_false, false_or, or_false, Nat.reduceBEq, Bool.false_and, Bool.and_false, Bool.or_false, Bool.false_or, Bool.and_self, Bool.true_and, Bool.and_true, Bool.or_self, z10, z01, zm0, nz1, nz0, cnt0]
  have loop : ∀ (n i : Nat), i + n = 20 → RunB (d + 4) Y_T_daysObeyed 1 [some (.inr (.inr (5, t))), some (.inl (nI (dO V lc F i))), some (.inl (nI i))] [] u Q := by
    intro n
    induction n with
    | zero =>
      intro i hi
      (refine rb_T_daysObeyed_1 ?_; simp only [bk_T_daysObeyed_1, gr_iconst, gr_istoren, st1, clr_0, clr_s, sk_0, sk_s, gr_iloadn, gr_bipush, gr_ificmp_ge, gr_aloadn, gr_invokevirtual, NI_5, ps_0, ps_s, pu_n, pu_s, ct_0, ct_i, ct_l, ct_r, gr_ifCond_eq, gr_iinc, gr_goto, gr_ireturn, gr_nil, pI_c, pR_c, oI_c, oR_c, lg_i, lg_l, lg_r, lg_n, kI_p, kI_m, lk_0, lk_s, ar_n, ar_c, if_true, if_false, List.replicate, Nat.reduceAdd, Nat.reduceSub, Nat.reduceLeDiff, Nat.reduceEqDiff, Nat.reduceLT, reduceIte, true_and, and_true, true_implies, false_implies, implies_true, eq_self, not_true_eq_false, not_false_eq_true, Bool.false_eq_true, reduceCtorEq, forall_const, List.headD_cons, Nat.zero_add, true_or, or_true, ne_eq, false_and, and_false, false_or, or_false, Nat.reduceBEq, Bool.false_and, Bool.and_false, Bool.or_false, Bool.false_or, Bool.and_self, Bool.true_and, Bool.and_true, Bool.or_self, z10, z01, zm0, nz1, nz0, cnt0, ht])
      refine ⟨fun _ => ?_, fun h => absurd (nI_le (by omega) (by omega)) h⟩
      (refine rb_T_daysObeyed_3 ?_; simp only [bk_T_daysObeyed_3, gr_iconst, gr_istoren, st1, clr_0, clr_s, sk_0, sk_s, gr_iloadn, gr_bipush, gr_ificmp_ge, gr_aloadn, gr_invokevirtual, NI_5, ps_0, ps_s, pu_n, pu_s, ct_0, ct_i, ct_l, ct_r, gr_ifCond_eq, gr_iinc, gr_goto, gr_ireturn, gr_nil, pI_c, pR_c, oI_c, oR_c, lg_i, lg_l, lg_r, lg_n, kI_p, kI_m, lk_0, lk_s, ar_n, ar_c, if_true, if_false, List.replicate, Nat.reduceAdd, Nat.reduceSub, Nat.reduceLeDiff, Nat.reduceEqDiff, Nat.reduceLT, reduceIte, true_and, and_true, true_implies, false_implies, implies_true, eq_self, not_true_eq_false, not_false_eq_true, Bool.false_eq_true, reduceCtorEq, forall_const, List.headD_cons, Nat.zero_add, true_or, or_true, ne_eq, false_and, and_false, false_or, or_false, Nat.reduceBEq, Bool.false_and, Bool.and_false, Bool.or_false, Bool.false_or, Bool.and_self, Bool.true_and, Bool.and_true, Bool.or_self, z10, z01, zm0, nz1, nz0, cnt0])
      rw [show i = 20 by omega]
      exact hq
    | succ n ih =>
      intro i hi
      have ih' := ih (i + 1) (by omega)
      simp only [dO] at ih'
      (refine rb_T_daysObeyed_1 ?_; simp only [bk_T_daysObeyed_1, gr_iconst, gr_istoren, st1, clr_0, clr_s, sk_0, sk_s, gr_iloadn, gr_bipush, gr_ificmp_ge, gr_aloadn, gr_invokevirtual, NI_5, ps_0, ps_s, pu_n, pu_s, ct_0, ct_i, ct_l, ct_r, gr_ifCond_eq, gr_iinc, gr_goto, gr_ireturn, gr_nil, pI_c, pR_c, oI_c, oR_c, lg_i, lg_l, lg_r, lg_n, kI_p, kI_m, lk_0, lk_s, ar_n, ar_c, if_true, if_false, List.replicate, Nat.reduceAdd, Nat.reduceSub, Nat.reduceLeDiff, Nat.reduceEqDiff, Nat.reduceLT, reduceIte, true_and, and_true, true_implies, false_implies, implies_true, eq_self, not_true_eq_false, not_false_eq_true, Bool.false_eq_true, reduceCtorEq, forall_const, List.headD_cons, Nat.zero_add, true_or, or_true, ne_eq, false_and, and_false, false_or, or_false, Nat.reduceBEq, Bool.false_and, Bool.and_false, Bool.or_false, Bool.false_or, Bool.and_self, Bool.true_and, Bool.and_true, Bool.or_self, z10, z01, zm0, nz1, nz0, cnt0, ht])
      refine ⟨fun h => absurd h (nI_ge (by omega) (by omega)), fun _ => ?_⟩
      refine c_T_obeys ht (by omega) hl (F := fun c => F i c 0) (fun c hc => hF i (by omega) c hc 0 (by omega)) (fun hb => ?_) (fun hb => ?_)
      · rw [if_pos hb] at ih'
        simp only [gr_iconst, gr_istoren, st1, clr_0, clr_s, sk_0, sk_s, gr_iloadn, gr_bipush, gr_ificmp_ge, gr_aloadn, gr_invokevirtual, NI_5, ps_0, ps_s, pu_n, pu_s, ct_0, ct_i, ct_l, ct_r, gr_ifCond_eq, gr_iinc, gr_goto, gr_ireturn, gr_nil, pI_c, pR_c, oI_c, oR_c, lg_i, lg_l, lg_r, lg_n, kI_p, kI_m, lk_0, lk_s, ar_n, ar_c, if_true, if_false, List.replicate, Nat.reduceAdd, Nat.reduceSub, Nat.reduceLeDiff, Nat.reduceEqDiff, Nat.reduceLT, reduceIte, true_and, and_true, true_implies, false_implies, implies_true, eq_self, not_true_eq_false, not_false_eq_true, Bool.false_eq_true, reduceCtorEq, forall_const, List.headD_cons, Nat.zero_add, true_or, or_true, ne_eq, false_and, and_false, false_or, or_false, Nat.reduceBEq, Bool.false_and, Bool.and_false, Bool.or_false, Bool.false_or, Bool.and_self, Bool.true_and, Bool.and_true, Bool.or_self, z10, z01, zm0, nz1, nz0, cnt0]
        (refine rb_T_daysObeyed_2 ?_; simp only [bk_T_daysObeyed_2, gr_iconst, gr_istoren, st1, clr_0, clr_s, sk_0, sk_s, gr_iloadn, gr_bipush, gr_ificmp_ge, gr_aloadn, gr_invokevirtual, NI_5, ps_0, ps_s, pu_n, pu_s, ct_0, ct_i, ct_l, ct_r, gr_ifCond_eq, gr_iinc, gr_goto, gr_ireturn, gr_nil, pI_c, pR_c, oI_c, oR_c, lg_i, lg_l, lg_r, lg_n, kI_p, kI_m, lk_0, lk_s, ar_n, ar_c, if_true, if_false, List.replicate, Nat.reduceAdd, Nat.reduceSub, Nat.reduceLeDiff, Nat.reduceEqDiff, Nat.reduceLT, reduceIte, true_and, and_true, true_implies, false_implies, implies_true, eq_self, not_true_eq_false, not_false_eq_true, Bool.false_eq_true, reduceCtorEq, forall_const, List.headD_cons, Nat.zero_add, true_or, or_true, ne_eq, false_and, and_false, false_or, or_false, Nat.reduceBEq, Bool.false_and, Bool.and_false, Bool.or_false, Bool.false_or, Bool.and_self, Bool.true_and, Bool.and_true, Bool.or_self, z10, z01, zm0, nz1, nz0, cnt0])
        simp only [nI_add]
        exact ih'
      · rw [if_neg (by simp [hb])] at ih'
        simp only [gr_iconst, gr_istoren, st1, clr_0, clr_s, sk_0, sk_s, gr_iloadn, gr_bipush, gr_ificmp_ge, gr_aloadn, gr_invokevirtual, NI_5, ps_0, ps_s, pu_n, pu_s, ct_0, ct_i, ct_l, ct_r, gr_ifCond_eq, gr_iinc, gr_goto, gr_ireturn, gr_nil, pI_c, pR_c, oI_c, oR_c, lg_i, lg_l, lg_r, lg_n, kI_p, kI_m, lk_0, lk_s, ar_n, ar_c, if_true, if_false, List.replicate, Nat.reduceAdd, Nat.reduceSub, Nat.reduceLeDiff, Nat.reduceEqDiff, Nat.reduceLT, reduceIte, true_and, and_true, true_implies, false_implies, implies_true, eq_self, not_true_eq_false, not_false_eq_true, Bool.false_eq_true, reduceCtorEq, forall_const, List.headD_cons, Nat.zero_add, true_or, or_true, ne_eq, false_and, and_false, false_or, or_false, Nat.reduceBEq, Bool.false_and, Bool.and_false, Bool.or_false, Bool.false_or, Bool.and_self, Bool.true_and, Bool.and_true, Bool.or_self, z10, z01, zm0, nz1, nz0, cnt0]
        (refine rb_T_daysObeyed_2 ?_; simp only [bk_T_daysObeyed_2, gr_iconst, gr_istoren, st1, clr_0, clr_s, sk_0, sk_s, gr_iloadn, gr_bipush, gr_ificmp_ge, gr_aloadn, gr_invokevirtual, NI_5, ps_0, ps_s, pu_n, pu_s, ct_0, ct_i, ct_l, ct_r, gr_ifCond_eq, gr_iinc, gr_goto, gr_ireturn, gr_nil, pI_c, pR_c, oI_c, oR_c, lg_i, lg_l, lg_r, lg_n, kI_p, kI_m, lk_0, lk_s, ar_n, ar_c, if_true, if_false, List.replicate, Nat.reduceAdd, Nat.reduceSub, Nat.reduceLeDiff, Nat.reduceEqDiff, Nat.reduceLT, reduceIte, true_and, and_true, true_implies, false_implies, implies_true, eq_self, not_true_eq_false, not_false_eq_true, Bool.false_eq_true, reduceCtorEq, forall_const, List.headD_cons, Nat.zero_add, true_or, or_true, ne_eq, false_and, and_false, false_or, or_false, Nat.reduceBEq, Bool.false_and, Bool.and_false, Bool.or_false, Bool.false_or, Bool.and_self, Bool.true_and, Bool.and_true, Bool.or_self, z10, z01, zm0, nz1, nz0, cnt0])
        simp only [nI_add]
        exact ih'
  exact loop 20 0 (by omega)
set_option maxHeartbeats 4000000 in
set_option maxRecDepth 100000 in
theorem c_T_isReadOn {d t a : Nat} {x : Int32} {F : Nat → Nat → Nat → Int32} {u : Mem} {Q : Option MV → Mem → Prop} (ht : t < 2) (ha : a < 20) (hF : FT u t 20 F) (h1 : rdN F a x 6 = true → Q (some (.inl (nI 1))) u) (h0 : rdN F a x 6 = false → Q (some (.inl (nI 0))) u) : OKm (d + 3) g_T_isReadOn [.inr (.inr (5, t)), .inl (nI a), .inl x] u Q := by
  refine en_T_isReadOn _ (Nat.le_of_ble_eq_true rfl) (rb_T_isReadOn_0 ?_)
  simp only [bk_T_isReadOn_0, gr_iconst, gr_istoren, st1, clr_0, clr_s, sk_0, sk_s, gr_iloadn, gr_bipush, gr_ificmp_ge, gr_aloadn, gr_invokevirtual, NI_5, ps_0, ps_s, pu_n, pu_s, ct_0, ct_i, ct_l, ct_r, gr_ificmp_ne, gr_ificmp_eq, gr_ireturn, gr_iinc, gr_goto, gr_nil, pI_c, pR_c, oI_c, oR_c, lg_i, lg_l, lg_r, lg_n, kI_p, kI_m, lk_0, lk_s, ar_n, ar_c, if_true, if_false, List.replicate, Nat.reduceAdd, Nat.reduceSub, Nat.reduceLeDiff, Nat.reduceEqDiff, Nat.reduceLT, reduceIte, true_and, and_true, true_implies, false_implies, implies_true, eq_self, not_true_eq_false, not_false_eq_true, Bool.false_eq_true, reduceCtorEq, forall_const, List.headD_cons, Nat.zero_add, true_or, or_true, ne_eq, false_and, and_false, false_or, or_false, Nat.reduceBEq, Bool.false_and, Bool.and_false, Bool.or_false, Bool.false_or, Bool.and_self, Bool.true_and, Bool.and_true, Bool.or_self, z10, z01, zm0, nz1, nz0, cnt0]
  have loop : ∀ (n i : Nat), i + n = 6 → rdN F a x i = false → RunB (d + 3) Y_T_isReadOn 1 [some (.inr (.inr (5, t))), some (.inl (nI a)), some (.inl x), some (.inl (nI i))] [] u Q := by
    intro n
    induction n with
    | zero =>
      intro i hi hb
      (refine rb_T_isReadOn_1 ?_; simp only [bk_T_isReadOn_1, gr_iconst, gr_istoren, st1, clr_0, clr_s, sk_0, sk_s, gr_iloadn, gr_bipush, gr_ificmp_ge, gr_aloadn, gr_invokevirtual, NI_5, ps_0, ps_s, pu_n, pu_s, ct_0, ct_i, ct_l, ct_r, gr_ificmp_ne, gr_ificmp_eq, gr_ireturn, gr_iinc, gr_goto, gr_nil, pI_c, pR_c, oI_c, oR_c, lg_i, lg_l, lg_r, lg_n, kI_p, kI_m, lk_0, lk_s, ar_n, ar_c, if_true, if_false, List.replicate, Nat.reduceAdd, Nat.reduceSub, Nat.reduceLeDiff, Nat.reduceEqDiff, Nat.reduceLT, reduceIte, true_and, and_true, true_implies, false_implies, implies_true, eq_self, not_true_eq_false, not_false_eq_true, Bool.false_eq_true, reduceCtorEq, forall_const, List.headD_cons, Nat.zero_add, true_or, or_true, ne_eq, false_and, and_false, false_or, or_false, Nat.reduceBEq, Bool.false_and, Bool.and_false, Bool.or_false, Bool.false_or, Bool.and_self, Bool.true_and, Bool.and_true, Bool.or_self, z10, z01, zm0, nz1, nz0, cnt0, ht])
      refine ⟨fun _ => ?_, fun h => absurd (nI_le (by omega) (by omega)) h⟩
      (refine rb_T_isReadOn_3 ?_; simp only [bk_T_isReadOn_3, gr_iconst, gr_istoren, st1, clr_0, clr_s, sk_0, sk_s, gr_iloadn, gr_bipush, gr_ificmp_ge, gr_aloadn, gr_invokevirtual, NI_5, ps_0, ps_s, pu_n, pu_s, ct_0, ct_i, ct_l, ct_r, gr_ificmp_ne, gr_ificmp_eq, gr_ireturn, gr_iinc, gr_goto, gr_nil, pI_c, pR_c, oI_c, oR_c, lg_i, lg_l, lg_r, lg_n, kI_p, kI_m, lk_0, lk_s, ar_n, ar_c, if_true, if_false, List.replicate, Nat.reduceAdd, Nat.reduceSub, Nat.reduceLeDiff, Nat.reduceEqDiff, Nat.reduceLT, reduceIte, true_and, and_true, true_implies, false_implies, implies_true, eq_self, not_true_eq_false, not_false_eq_true, Bool.false_eq_true, reduceCtorEq, forall_const, List.headD_cons, Nat.zero_add, true_or, or_true, ne_eq, false_and, and_false, false_or, or_false, Nat.reduceBEq, Bool.false_and, Bool.and_false, Bool.or_false, Bool.false_or, Bool.and_self, Bool.true_and, Bool.and_true, Bool.or_self, z10, z01, zm0, nz1, nz0, cnt0])
      rw [show i = 6 by omega] at hb
      exact h0 hb
    | succ n ih =>
      intro i hi hb
      have nxt : rdN F a x (i + 1) = false → RunB (d + 3) Y_T_isReadOn 2 [some (.inr (.inr (5, t))), some (.inl (nI a)), some (.inl x), some (.inl (nI i))] [] u Q := by
        intro hb'
        (refine rb_T_isReadOn_2 ?_; simp only [bk_T_isReadOn_2, gr_iconst, gr_istoren, st1, clr_0, clr_s, sk_0, sk_s, gr_iloadn, gr_bipush, gr_ificmp_ge, gr_aloadn, gr_invokevirtual, NI_5, ps_0, ps_s, pu_n, pu_s, ct_0, ct_i, ct_l, ct_r, gr_ificmp_ne, gr_ificmp_eq, gr_ireturn, gr_iinc, gr_goto, gr_nil, pI_c, pR_c, oI_c, oR_c, lg_i, lg_l, lg_r, lg_n, kI_p, kI_m, lk_0, lk_s, ar_n, ar_c, if_true, if_false, List.replicate, Nat.reduceAdd, Nat.reduceSub, Nat.reduceLeDiff, Nat.reduceEqDiff, Nat.reduceLT, reduceIte, true_and, and_true, true_implies, false_implies, implies_true, eq_self, not_true_eq_false, not_false_eq_true, Bool.false_eq_true, reduceCtorEq, forall_const, List.headD_cons, Nat.zero_add, true_or, or_true, ne_eq, false_and, and_false, false_or, or_false, Nat.reduceBEq, Bool.false_and, Bool.and_false, Bool.or_false, Bool.false_or, Bool.and_self, Bool.true_and, Bool.and_true, Bool.or_self, z10, z01, zm0, nz1, nz0, cnt0])
        rw [nI_add]
        exact ih (i + 1) (by omega) hb'
      (refine rb_T_isReadOn_1 ?_; simp only [bk_T_isReadOn_1, gr_iconst, gr_istoren, st1, clr_0, clr_s, sk_0, sk_s, gr_iloadn, gr_bipush, gr_ificmp_ge, gr_aloadn, gr_invokevirtual, NI_5, ps_0, ps_s, pu_n, pu_s, ct_0, ct_i, ct_l, ct_r, gr_ificmp_ne, gr_ificmp_eq, gr_ireturn, gr_iinc, gr_goto, gr_nil, pI_c, pR_c, oI_c, oR_c, lg_i, lg_l, lg_r, lg_n, kI_p, kI_m, lk_0, lk_s, ar_n, ar_c, if_true, if_false, List.replicate, Nat.reduceAdd, Nat.reduceSub, Nat.reduceLeDiff, Nat.reduceEqDiff, Nat.reduceLT, reduceIte, true_and, and_true, true_implies, false_implies, implies_true, eq_self, not_true_eq_false, not_false_eq_true, Bool.false_eq_true, reduceCtorEq, forall_const, List.headD_cons, Nat.zero_add, true_or, or_true, ne_eq, false_and, and_false, false_or, or_false, Nat.reduceBEq, Bool.false_and, Bool.and_false, Bool.or_false, Bool.false_or, Bool.and_self, Bool.true_and, Bool.and_true, Bool.or_self, z10, z01, zm0, nz1, nz0, cnt0, ht])
      refine ⟨fun h => absurd h (nI_ge (by omega) (by omega)), fun _ => ?_⟩
      refine c_T_fact ht ha (by omega) (by omega) ?_
      simp only [gr_iconst, gr_istoren, st1, clr_0, clr_s, sk_0, sk_s, gr_iloadn, gr_bipush, gr_ificmp_ge, gr_aloadn, gr_invokevirtual, NI_5, ps_0, ps_s, pu_n, pu_s, ct_0, ct_i, ct_l, ct_r, gr_ificmp_ne, gr_ificmp_eq, gr_ireturn, gr_iinc, gr_goto, gr_nil, pI_c, pR_c, oI_c, oR_c, lg_i, lg_l, lg_r, lg_n, kI_p, kI_m, lk_0, lk_s, ar_n, ar_c, if_true, if_false, List.replicate, Nat.reduceAdd, Nat.reduceSub, Nat.reduceLeDiff, Nat.reduceEqDiff, Nat.reduceLT, reduceIte, true_and, and_true, true_implies, false_implies, implies_true, eq_self, not_true_eq_false, not_false_eq_true, Bool.false_eq_true, reduceCtorEq, forall_const, List.headD_cons, Nat.zero_add, true_or, or_true, ne_eq, false_and, and_false, false_or, or_false, Nat.reduceBEq, Bool.false_and, Bool.and_false, Bool.or_false, Bool.false_or, Bool.and_self, Bool.true_and, Bool.and_true, Bool.or_self, z10, z01, zm0, nz1, nz0, cnt0, ht]
      rw [hF a ha i (by omega) 1 (by omega)]
      refine ⟨fun e1 => nxt (by simp [rdN, hb, e1]), fun e1 => ?_⟩
      refine c_T_fact ht ha (by omega) (by omega) ?_
      simp only [gr_iconst, gr_istoren, st1, clr_0, clr_s, sk_0, sk_s, gr_iloadn, gr_bipush, gr_ificmp_ge, gr_aloadn, gr_invokevirtual, NI_5, ps_0, ps_s, pu_n, pu_s, ct_0, ct_i, ct_l, ct_r, gr_ificmp_ne, gr_ificmp_eq, gr_ireturn, gr_iinc, gr_goto, gr_nil, pI_c, pR_c, oI_c, oR_c, lg_i, lg_l, lg_r, lg_n, kI_p, kI_m, lk_0, lk_s, ar_n, ar_c, if_true, if_false, List.replicate, Nat.reduceAdd, Nat.reduceSub, Nat.reduceLeDiff, Nat.reduceEqDiff, Nat.reduceLT, reduceIte, true_and, and_true, true_implies, false_implies, implies_true, eq_self, not_true_eq_false, not_false_eq_true, Bool.false_eq_true, reduceCtorEq, forall_const, List.headD_cons, Nat.zero_add, true_or, or_true, ne_eq, false_and, and_false, false_or, or_false, Nat.reduceBEq, Bool.false_and, Bool.and_false, Bool.or_false, Bool.false_or, Bool.and_self, Bool.true_and, Bool.and_true, Bool.or_self, z10, z01, zm0, nz1, nz0, cnt0, ht]
      rw [show rd u 22 t ((a * 6 + i) * 6) = F a i 0 from hF a ha i (by omega) 0 (by omega)]
      refine ⟨fun e2 => nxt (by simp [rdN, hb, e2]), fun e2 => h1 ?_⟩
      exact rdN_mono F a x 6 (i + 1) (by simp [rdN, e1, e2]) (by omega)
  exact loop 6 0 (by omega) rfl
set_option maxHeartbeats 4000000 in
set_option maxRecDepth 100000 in
theorem c_T_daysRead {d t : Nat} {x : Int32} {F : Nat → Nat → Nat → Int32} {u : Mem} {Q : Option MV → Mem → Prop} (ht : t < 2) (hF : FT u t 20 F) (hq : Q (some (.inl (nI (dR F x 20)))) u) : OKm (d + 4) g_T_daysRead [.inr (.inr (5, t)), .inl x] u Q := by
  refine en_T_daysRead _ (Nat.le_of_ble_eq_true rfl) (rb_T_daysRead_0 ?_)
  simp only [bk_T_daysRead_0, gr_iconst, gr_istoren, st1, clr_0, clr_s, sk_0, sk_s, gr_iloadn, gr_bipush, gr_ificmp_ge, gr_aloadn, gr_invokevirtual, NI_5, ps_0, ps_s, pu_n, pu_s, ct_0, ct_i, ct_l, ct_r, gr_ifCond_eq, gr_iinc, gr_goto, gr_ireturn, gr_nil, pI_c, pR_c, oI_c, oR_c, lg_i, lg_l, lg_r, lg_n, kI_p, kI_m, lk_0, lk_s, ar_n, ar_c, if_true, if_false, List.replicate, Nat.reduceAdd, Nat.reduceSub, Nat.reduceLeDiff, Nat.reduceEqDiff, Nat.reduceLT, reduceIte, true_and, and_true, true_implies, false_implies, implies_true, eq_self, not_true_eq_false, not_false_eq_true, Bool.false_eq_true, reduceCtorEq, forall_const, List.headD_cons, Nat.zero_add, true_or, or_true, ne_eq, false_and, and_false, false_or, or_false, Nat.reduceBEq, Bool.false_and, Bool.and_false, Bool.or_false, Bool.false_or, Bool.and_self, Bool.true_and, Bool.and_true, Bool.or_self, z10, z01, zm0, nz1, nz0, cnt0]
  have loop : ∀ (n i : Nat), i + n = 20 → RunB (d + 4) Y_T_daysRead 1 [some (.inr (.inr (5, t))), some (.inl x), some (.inl (nI (dR F x i))), some (.inl (nI i))] [] u Q := by
    intro n
    induction n with
    | zero =>
      intro i hi
      (refine rb_T_daysRead_1 ?_; simp only [bk_T_daysRead_1, gr_iconst, gr_istoren, st1, clr_0, clr_s, sk_0, sk_s, gr_iloadn, gr_bipush, gr_ificmp_ge, gr_aloadn, gr_invokevirtual, NI_5, ps_0, ps_s, pu_n, pu_s, ct_0, ct_i, ct_l, ct_r, gr_ifCond_eq, gr_iinc, gr_goto, gr_ireturn, gr_nil, pI_c, pR_c, oI_c, oR_c, lg_i, lg_l, lg_r, lg_n, kI_p, kI_m, lk_0, lk_s, ar_n, ar_c, if_true, if_false, List.replicate, Nat.reduceAdd, Nat.reduceSub, Nat.reduceLeDiff, Nat.reduceEqDiff, Nat.reduceLT, reduceIte, true_and, and_true, true_implies, false_implies, implies_true, eq_self, not_true_eq_false, not_false_eq_true, Bool.false_eq_true, reduceCtorEq, forall_const, List.headD_cons, Nat.zero_add, true_or, or_true, ne_eq, false_and, and_false, false_or, or_false, Nat.reduceBEq, Bool.false_and, Bool.and_false, Bool.or_false, Bool.false_or, Bool.and_self, Bool.true_and, Bool.and_true, Bool.or_self, z10, z01, zm0, nz1, nz0, cnt0, ht])
      refine ⟨fun _ => ?_, fun h => absurd (nI_le (by omega) (by omega)) h⟩
      (refine rb_T_daysRead_3 ?_; simp only [bk_T_daysRead_3, gr_iconst, gr_istoren, st1, clr_0, clr_s, sk_0, sk_s, gr_iloadn, gr_bipush, gr_ificmp_ge, gr_aloadn, gr_invokevirtual, NI_5, ps_0, ps_s, pu_n, pu_s, ct_0, ct_i, ct_l, ct_r, gr_ifCond_eq, gr_iinc, gr_goto, gr_ireturn, gr_nil, pI_c, pR_c, oI_c, oR_c, lg_i, lg_l, lg_r, lg_n, kI_p, kI_m, lk_0, lk_s, ar_n, ar_c, if_true, if_false, List.replicate, Nat.reduceAdd, Nat.reduceSub, Nat.reduceLeDiff, Nat.reduceEqDiff, Nat.reduceLT, reduceIte, true_and, and_true, true_implies, false_implies, implies_true, eq_self, not_true_eq_false, not_false_eq_true, Bool.false_eq_true, reduceCtorEq, forall_const, List.headD_cons, Nat.zero_add, true_or, or_true, ne_eq, false_and, and_false, false_or, or_false, Nat.reduceBEq, Bool.false_and, Bool.and_false, Bool.or_false, Bool.false_or, Bool.and_self, Bool.true_and, Bool.and_true, Bool.or_self, z10, z01, zm0, nz1, nz0, cnt0])
      rw [show i = 20 by omega]
      exact hq
    | succ n ih =>
      intro i hi
      have ih' := ih (i + 1) (by omega)
      simp only [dR] at ih'
      (refine rb_T_daysRead_1 ?_; simp only [bk_T_daysRead_1, gr_iconst, gr_istoren, st1, clr_0, clr_s, sk_0, sk_s, gr_iloadn, gr_bipush, gr_ificmp_ge, gr_aloadn, gr_invokevirtual, NI_5, ps_0, ps_s, pu_n, pu_s, ct_0, ct_i, ct_l, ct_r, gr_ifCond_eq, gr_iinc, gr_goto, gr_ireturn, gr_nil, pI_c, pR_c, oI_c, oR_c, lg_i, lg_l, lg_r, lg_n, kI_p, kI_m, lk_0, lk_s, ar_n, ar_c, if_true, if_false, List.replicate, Nat.reduceAdd, Nat.reduceSub, Nat.reduceLeDiff, Nat.reduceEqDiff, Nat.reduceLT, reduceIte, true_and, and_true, true_implies, false_implies, implies_true, eq_self, not_true_eq_false, not_false_eq_true, Bool.false_eq_true, reduceCtorEq, forall_const, List.headD_cons, Nat.zero_add, true_or, or_true, ne_eq, false_and, and_false, false_or, or_false, Nat.reduceBEq, Bool.false_and, Bool.and_false, Bool.or_false, Bool.false_or, Bool.and_self, Bool.true_and, Bool.and_true, Bool.or_self, z10, z01, zm0, nz1, nz0, cnt0, ht])
      refine ⟨fun h => absurd h (nI_ge (by omega) (by omega)), fun _ => ?_⟩
      refine c_T_isReadOn ht (by omega) hF (fun hb => ?_) (fun hb => ?_)
      · rw [if_pos hb] at ih'
        simp only [gr_iconst, gr_istoren, st1, clr_0, clr_s, sk_0, sk_s, gr_iloadn, gr_bipush, gr_ificmp_ge, gr_aloadn, gr_invokevirtual, NI_5, ps_0, ps_s, pu_n, pu_s, ct_0, ct_i, ct_l, ct_r, gr_ifCond_eq, gr_iinc, gr_goto, gr_ireturn, gr_nil, pI_c, pR_c, oI_c, oR_c, lg_i, lg_l, lg_r, lg_n, kI_p, kI_m, lk_0, lk_s, ar_n, ar_c, if_true, if_false, List.replicate, Nat.reduceAdd, Nat.reduceSub, Nat.reduceLeDiff, Nat.reduceEqDiff, Nat.reduceLT, reduceIte, true_and, and_true, true_implies, false_implies, implies_true, eq_self, not_true_eq_false, not_false_eq_true, Bool.false_eq_true, reduceCtorEq, forall_const, List.headD_cons, Nat.zero_add, true_or, or_true, ne_eq, false_and, and_false, false_or, or_false, Nat.reduceBEq, Bool.false_and, Bool.and_false, Bool.or_false, Bool.false_or, Bool.and_self, Bool.true_and, Bool.and_true, Bool.or_self, z10, z01, zm0, nz1, nz0, cnt0]
        (refine rb_T_daysRead_2 ?_; simp only [bk_T_daysRead_2, gr_iconst, gr_istoren, st1, clr_0, clr_s, sk_0, sk_s, gr_iloadn, gr_bipush, gr_ificmp_ge, gr_aloadn, gr_invokevirtual, NI_5, ps_0, ps_s, pu_n, pu_s, ct_0, ct_i, ct_l, ct_r, gr_ifCond_eq, gr_iinc, gr_goto, gr_ireturn, gr_nil, pI_c, pR_c, oI_c, oR_c, lg_i, lg_l, lg_r, lg_n, kI_p, kI_m, lk_0, lk_s, ar_n, ar_c, if_true, if_false, List.replicate, Nat.reduceAdd, Nat.reduceSub, Nat.reduceLeDiff, Nat.reduceEqDiff, Nat.reduceLT, reduceIte, true_and, and_true, true_implies, false_implies, implies_true, eq_self, not_true_eq_false, not_false_eq_true, Bool.false_eq_true, reduceCtorEq, forall_const, List.headD_cons, Nat.zero_add, true_or, or_true, ne_eq, false_and, and_false, false_or, or_false, Nat.reduceBEq, Bool.false_and, Bool.and_false, Bool.or_false, Bool.false_or, Bool.and_self, Bool.true_and, Bool.and_true, Bool.or_self, z10, z01, zm0, nz1, nz0, cnt0])
        simp only [nI_add]
        exact ih'
      · rw [if_neg (by simp [hb])] at ih'
        simp only [gr_iconst, gr_istoren, st1, clr_0, clr_s, sk_0, sk_s, gr_iloadn, gr_bipush, gr_ificmp_ge, gr_aloadn, gr_invokevirtual, NI_5, ps_0, ps_s, pu_n, pu_s, ct_0, ct_i, ct_l, ct_r, gr_ifCond_eq, gr_iinc, gr_goto, gr_ireturn, gr_nil, pI_c, pR_c, oI_c, oR_c, lg_i, lg_l, lg_r, lg_n, kI_p, kI_m, lk_0, lk_s, ar_n, ar_c, if_true, if_false, List.replicate, Nat.reduceAdd, Nat.reduceSub, Nat.reduceLeDiff, Nat.reduceEqDiff, Nat.reduceLT, reduceIte, true_and, and_true, true_implies, false_implies, implies_true, eq_self, not_true_eq_false, not_false_eq_true, Bool.false_eq_true, reduceCtorEq, forall_const, List.headD_cons, Nat.zero_add, true_or, or_true, ne_eq, false_and, and_false, false_or, or_false, Nat.reduceBEq, Bool.false_and, Bool.and_false, Bool.or_false, Bool.false_or, Bool.and_self, Bool.true_and, Bool.and_true, Bool.or_self, z10, z01, zm0, nz1, nz0, cnt0]
        (refine rb_T_daysRead_2 ?_; simp only [bk_T_daysRead_2, gr_iconst, gr_istoren, st1, clr_0, clr_s, sk_0, sk_s, gr_iloadn, gr_bipush, gr_ificmp_ge, gr_aloadn, gr_invokevirtual, NI_5, ps_0, ps_s, pu_n, pu_s, ct_0, ct_i, ct_l, ct_r, gr_ifCond_eq, gr_iinc, gr_goto, gr_ireturn, gr_nil, pI_c, pR_c, oI_c, oR_c, lg_i, lg_l, lg_r, lg_n, kI_p, kI_m, lk_0, lk_s, ar_n, ar_c, if_true, if_false, List.replicate, Nat.reduceAdd, Nat.reduceSub, Nat.reduceLeDiff, Nat.reduceEqDiff, Nat.reduceLT, reduceIte, true_and, and_true, true_implies, false_implies, implies_true, eq_self, not_true_eq_false, not_false_eq_true, Bool.false_eq_true, reduceCtorEq, forall_const, List.headD_cons, Nat.zero_add, true_or, or_true, ne_eq, false_and, and_false, false_or, or_false, Nat.reduceBEq, Bool.false_and, Bool.and_false, Bool.or_false, Bool.false_or, Bool.and_self, Bool.true_and, Bool.and_true, Bool.or_self, z10, z01, zm0, nz1, nz0, cnt0])
        simp only [nI_add]
        exact ih'
  exact loop 20 0 (by omega)
set_option maxHeartbeats 4000000 in
set_option maxRecDepth 100000 in
theorem c_T_unreadBills {d t n : Nat} {F : Nat → Nat → Nat → Int32} {u : Mem} {Q : Option MV → Mem → Prop} (ht : t < 2) (hn : rd u 2 0 5 = nI n) (hn8 : n ≤ 8) (hF : FT u t 20 F) (hq : Q (some (.inl (ubN F n))) u) : OKm (d + 5) g_T_unreadBills [.inr (.inr (5, t))] u Q := by
  refine en_T_unreadBills _ (Nat.le_of_ble_eq_true rfl) (rb_T_unreadBills_0 ?_)
  simp only [bk_T_unreadBills_0, gr_iconst, gr_istoren, st1, clr_0, clr_s, sk_0, sk_s, gr_iloadn, gr_aloadn, gr_getfield, fm_5_0, NI_5, fm_2_5, NI_2, gr_ificmp_ge, gr_invokevirtual, ps_0, ps_s, pu_n, pu_s, ct_0, ct_i, ct_l, ct_r, gr_ifCond_ne, gr_ishl, gr_ior, gr_iinc, gr_goto, gr_ireturn, gr_nil, pI_c, pR_c, oI_c, oR_c, lg_i, lg_l, lg_r, lg_n, kI_p, kI_m, lk_0, lk_s, ar_n, ar_c, if_true, if_false, List.replicate, Nat.reduceAdd, Nat.reduceSub, Nat.reduceLeDiff, Nat.reduceEqDiff, Nat.reduceLT, reduceIte, true_and, and_true, true_implies, false_implies, implies_true, eq_self, not_true_eq_false, not_false_eq_true, Bool.false_eq_true, reduceCtorEq, forall_const, List.headD_cons, Nat.zero_add, true_or, or_true, ne_eq, false_and, and_false, false_or, or_false, Nat.reduceBEq, Bool.false_and, Bool.and_false, Bool.or_false, Bool.false_or, Bool.and_self, Bool.true_and, Bool.and_true, Bool.or_self, z10, z01, zm0, nz1, nz0, cnt0]
  have loop : ∀ (m i : Nat), i + m = n → RunB (d + 5) Y_T_unreadBills 1 [some (.inr (.inr (5, t))), some (.inl (ubN F i)), some (.inl (nI i))] [] u Q := by
    intro m
    induction m with
    | zero =>
      intro i hi
      (refine rb_T_unreadBills_1 ?_; simp only [bk_T_unreadBills_1, gr_iconst, gr_istoren, st1, clr_0, clr_s, sk_0, sk_s, gr_iloadn, gr_aloadn, gr_getfield, fm_5_0, NI_5, fm_2_5, NI_2, gr_ificmp_ge, gr_invokevirtual, ps_0, ps_s, pu_n, pu_s, ct_0, ct_i, ct_l, ct_r, gr_ifCond_ne, gr_ishl, gr_ior, gr_iinc, gr_goto, gr_ireturn, gr_nil, pI_c, pR_c, oI_c, oR_c, lg_i, lg_l, lg_r, lg_n, kI_p, kI_m, lk_0, lk_s, ar_n, ar_c, if_true, if_false, List.replicate, Nat.reduceAdd, Nat.reduceSub, Nat.reduceLeDiff, Nat.reduceEqDiff, Nat.reduceLT, reduceIte, true_and, and_true, true_implies, false_implies, implies_true, eq_self, not_true_eq_false, not_false_eq_true, Bool.false_eq_true, reduceCtorEq, forall_const, List.headD_cons, Nat.zero_add, true_or, or_true, ne_eq, false_and, and_false, false_or, or_false, Nat.reduceBEq, Bool.false_and, Bool.and_false, Bool.or_false, Bool.false_or, Bool.and_self, Bool.true_and, Bool.and_true, Bool.or_self, z10, z01, zm0, nz1, nz0, cnt0, ht, hn])
      refine ⟨fun _ => ?_, fun h => absurd (nI_le (by omega) (by omega)) h⟩
      (refine rb_T_unreadBills_3 ?_; simp only [bk_T_unreadBills_3, gr_iconst, gr_istoren, st1, clr_0, clr_s, sk_0, sk_s, gr_iloadn, gr_aloadn, gr_getfield, fm_5_0, NI_5, fm_2_5, NI_2, gr_ificmp_ge, gr_invokevirtual, ps_0, ps_s, pu_n, pu_s, ct_0, ct_i, ct_l, ct_r, gr_ifCond_ne, gr_ishl, gr_ior, gr_iinc, gr_goto, gr_ireturn, gr_nil, pI_c, pR_c, oI_c, oR_c, lg_i, lg_l, lg_r, lg_n, kI_p, kI_m, lk_0, lk_s, ar_n, ar_c, if_true, if_false, List.replicate, Nat.reduceAdd, Nat.reduceSub, Nat.reduceLeDiff, Nat.reduceEqDiff, Nat.reduceLT, reduceIte, true_and, and_true, true_implies, false_implies, implies_true, eq_self, not_true_eq_false, not_false_eq_true, Bool.false_eq_true, reduceCtorEq, forall_const, List.headD_cons, Nat.zero_add, true_or, or_true, ne_eq, false_and, and_false, false_or, or_false, Nat.reduceBEq, Bool.false_and, Bool.and_false, Bool.or_false, Bool.false_or, Bool.and_self, Bool.true_and, Bool.and_true, Bool.or_self, z10, z01, zm0, nz1, nz0, cnt0])
      rw [show i = n by omega]
      exact hq
    | succ m ih =>
      intro i hi
      have ih' := ih (i + 1) (by omega)
      have hle := dR_le F (nI i) 20
      simp only [ubN] at ih'
      (refine rb_T_unreadBills_1 ?_; simp only [bk_T_unreadBills_1, gr_iconst, gr_istoren, st1, clr_0, clr_s, sk_0, sk_s, gr_iloadn, gr_aloadn, gr_getfield, fm_5_0, NI_5, fm_2_5, NI_2, gr_ificmp_ge, gr_invokevirtual, ps_0, ps_s, pu_n, pu_s, ct_0, ct_i, ct_l, ct_r, gr_ifCond_ne, gr_ishl, gr_ior, gr_iinc, gr_goto, gr_ireturn, gr_nil, pI_c, pR_c, oI_c, oR_c, lg_i, lg_l, lg_r, lg_n, kI_p, kI_m, lk_0, lk_s, ar_n, ar_c, if_true, if_false, List.replicate, Nat.reduceAdd, Nat.reduceSub, Nat.reduceLeDiff, Nat.reduceEqDiff, Nat.reduceLT, reduceIte, true_and, and_true, true_implies, false_implies, implies_true, eq_self, not_true_eq_false, not_false_eq_true, Bool.false_eq_true, reduceCtorEq, forall_const, List.headD_cons, Nat.zero_add, true_or, or_true, ne_eq, false_and, and_false, false_or, or_false, Nat.reduceBEq, Bool.false_and, Bool.and_false, Bool.or_false, Bool.false_or, Bool.and_self, Bool.true_and, Bool.and_true, Bool.or_self, z10, z01, zm0, nz1, nz0, cnt0, ht, hn])
      refine ⟨fun h => absurd h (nI_ge (by omega) (by omega)), fun _ => ?_⟩
      refine c_T_daysRead ht hF ?_
      simp only [gr_iconst, gr_istoren, st1, clr_0, clr_s, sk_0, sk_s, gr_iloadn, gr_aloadn, gr_getfield, fm_5_0, NI_5, fm_2_5, NI_2, gr_ificmp_ge, gr_invokevirtual, ps_0, ps_s, pu_n, pu_s, ct_0, ct_i, ct_l, ct_r, gr_ifCond_ne, gr_ishl, gr_ior, gr_iinc, gr_goto, gr_ireturn, gr_nil, pI_c, pR_c, oI_c, oR_c, lg_i, lg_l, lg_r, lg_n, kI_p, kI_m, lk_0, lk_s, ar_n, ar_c, if_true, if_false, List.replicate, Nat.reduceAdd, Nat.reduceSub, Nat.reduceLeDiff, Nat.reduceEqDiff, Nat.reduceLT, reduceIte, true_and, and_true, true_implies, false_implies, implies_true, eq_self, not_true_eq_false, not_false_eq_true, Bool.false_eq_true, reduceCtorEq, forall_const, List.headD_cons, Nat.zero_add, true_or, or_true, ne_eq, false_and, and_false, false_or, or_false, Nat.reduceBEq, Bool.false_and, Bool.and_false, Bool.or_false, Bool.false_or, Bool.and_self, Bool.true_and, Bool.and_true, Bool.or_self, z10, z01, zm0, nz1, nz0, cnt0]
      simp (disch := omega) only [nI_leI, nI_ltI, nI_eq, nI_add, pk_mul, nI_clamp, vp_nI, nI_lt0, nI_ge0, nI_eq0, nI_gt0, nI_le0, nI_neg1, neg1_nI, Nat.not_le, Nat.not_lt, if_true, if_false, true_and, and_true, true_implies, false_implies, implies_true, not_true_eq_false, not_false_eq_true, reduceIte, false_or, or_false, false_and, and_false, true_or, or_true]
      refine ⟨fun h => ?_, fun h => ?_⟩
      · rw [if_neg h] at ih'
        (refine rb_T_unreadBills_2 ?_; simp only [bk_T_unreadBills_2, gr_iconst, gr_istoren, st1, clr_0, clr_s, sk_0, sk_s, gr_iloadn, gr_aloadn, gr_getfield, fm_5_0, NI_5, fm_2_5, NI_2, gr_ificmp_ge, gr_invokevirtual, ps_0, ps_s, pu_n, pu_s, ct_0, ct_i, ct_l, ct_r, gr_ifCond_ne, gr_ishl, gr_ior, gr_iinc, gr_goto, gr_ireturn, gr_nil, pI_c, pR_c, oI_c, oR_c, lg_i, lg_l, lg_r, lg_n, kI_p, kI_m, lk_0, lk_s, ar_n, ar_c, if_true, if_false, List.replicate, Nat.reduceAdd, Nat.reduceSub, Nat.reduceLeDiff, Nat.reduceEqDiff, Nat.reduceLT, reduceIte, true_and, and_true, true_implies, false_implies, implies_true, eq_self, not_true_eq_false, not_false_eq_true, Bool.false_eq_true, reduceCtorEq, forall_const, List.headD_cons, Nat.zero_add, true_or, or_true, ne_eq, false_and, and_false, false_or, or_false, Nat.reduceBEq, Bool.false_and, Bool.and_false, Bool.or_false, Bool.false_or, Bool.and_self, Bool.true_and, Bool.and_true, Bool.or_self, z10, z01, zm0, nz1, nz0, cnt0])
        simp only [nI_add]
        exact ih'
      · rw [if_pos h] at ih'
        (refine rb_T_unreadBills_2 ?_; simp only [bk_T_unreadBills_2, gr_iconst, gr_istoren, st1, clr_0, clr_s, sk_0, sk_s, gr_iloadn, gr_aloadn, gr_getfield, fm_5_0, NI_5, fm_2_5, NI_2, gr_ificmp_ge, gr_invokevirtual, ps_0, ps_s, pu_n, pu_s, ct_0, ct_i, ct_l, ct_r, gr_ifCond_ne, gr_ishl, gr_ior, gr_iinc, gr_goto, gr_ireturn, gr_nil, pI_c, pR_c, oI_c, oR_c, lg_i, lg_l, lg_r, lg_n, kI_p, kI_m, lk_0, lk_s, ar_n, ar_c, if_true, if_false, List.replicate, Nat.reduceAdd, Nat.reduceSub, Nat.reduceLeDiff, Nat.reduceEqDiff, Nat.reduceLT, reduceIte, true_and, and_true, true_implies, false_implies, implies_true, eq_self, not_true_eq_false, not_false_eq_true, Bool.false_eq_true, reduceCtorEq, forall_const, List.headD_cons, Nat.zero_add, true_or, or_true, ne_eq, false_and, and_false, false_or, or_false, Nat.reduceBEq, Bool.false_and, Bool.and_false, Bool.or_false, Bool.false_or, Bool.and_self, Bool.true_and, Bool.and_true, Bool.or_self, z10, z01, zm0, nz1, nz0, cnt0])
        simp only [nI_add]
        exact ih'
  exact loop n 0 (by omega)
/-- what was seen: how many, days, columns, letters -/
def Sg4 (u : Mem) (z : Nat) (sd sc : Nat → Nat) (sl : Nat → Int32) : Prop := rd u 4 0 3 = nI z ∧ z ≤ 8 ∧ ∀ i, i < z → rd u 19 0 i = nI (sd i) ∧ rd u 20 0 i = nI (sc i) ∧ rd u 21 0 i = sl i ∧ sd i < 20 ∧ sc i < 6
theorem Sg4.keep {u v : Mem} {z : Nat} {sd sc : Nat → Nat} {sl : Nat → Int32} (h : Sg4 u z sd sc sl) (hv : ∀ c i j, (c = 4 ∨ c = 19 ∨ c = 20 ∨ c = 21) → rd v c i j = rd u c i j) : Sg4 v z sd sc sl := by
  refine ⟨by rw [hv _ _ _ (by simp)]; exact h.1, h.2.1, fun i hi => ?_⟩
  rw [hv 19 _ _ (by simp), hv 20 _ _ (by simp), hv 21 _ _ (by simp)]
  exact h.2.2 i hi
def fitN (sd sc : Nat → Nat) (sl : Nat → Int32) (F : Nat → Nat → Nat → Int32) : Nat → Bool
  | 0 => true
  | i + 1 => fitN sd sc sl F i && decide (F (sd i) (sc i) 0 = sl i)
theorem fitN_mono (sd sc : Nat → Nat) (sl : Nat → Int32) (F : Nat → Nat → Nat → Int32) : ∀ n k, fitN sd sc sl F k = false → k ≤ n → fitN sd sc sl F n = false := by
  intro n
  induction n with
  | zero => intro k h hk; rw [show k = 0 by omega] at h; exact h
  | succ n ih =>
    intro k h hk
    by_cases e : k = n + 1
    · rw [← e]; exact h
    · simp only [fitN, ih k h (by omega), Bool.false_and]
set_option maxHeartbeats 4000000 in
set_option maxRecDepth 100000 in
theorem c_S_fit {d t z : Nat} {sd sc : Nat → Nat} {sl : Nat → Int32} {F : Nat → Nat → Nat → Int32} {u : Mem} {Q : Option MV → Mem → Prop} (ht : t < 2) (hg : Sg4 u z sd sc sl) (hF : FT u t 20 F) (h1 : fitN sd sc sl F z = true → Q (some (.inl (nI 1))) u) (h0 : fitN sd sc sl F z = false → Q (some (.inl (nI 0))) u) : OKm (d + 3) g_S_fit [.inr (.inr (4, 0)), .inr (.inr (5, t))] u Q := by
  have h3 := hg.1
  have hz8 := hg.2.1
  refine en_S_fit _ (Nat.le_of_ble_eq_true rfl) (rb_S_fit_0 ?_)
  simp only [bk_S_fit_0, gr_iconst, gr_istoren, st1, clr_0, clr_s, sk_0, sk_s, gr_iloadn, gr_aloadn, gr_getfield, fm_4_3, NI_4, gr_ificmp_ge, gr_bipush, fm_4_0, gr_iaload, fm_4_1, gr_invokevirtual, NI_5, ps_0, ps_s, pu_n, pu_s, ct_0, ct_i, ct_l, ct_r, fm_4_2, gr_ificmp_eq, gr_ireturn, gr_iinc, gr_goto, NI_19, ia_19, ln_19, al_19, NI_20, ia_20, ln_20, al_20, NI_21, ia_21, ln_21, al_21, gr_nil, pI_c, pR_c, oI_c, oR_c, lg_i, lg_l, lg_r, lg_n, kI_p, kI_m, lk_0, lk_s, ar_n, ar_c, if_true, if_false, List.replicate, Nat.reduceAdd, Nat.reduceSub, Nat.reduceLeDiff, Nat.reduceEqDiff, Nat.reduceLT, reduceIte, true_and, and_true, true_implies, false_implies, implies_true, eq_self, not_true_eq_false, not_false_eq_true, Bool.false_eq_true, reduceCtorEq, forall_const, List.headD_cons, Nat.zero_add, true_or, or_true, ne_eq, false_and, and_false, false_or, or_false, Nat.reduceBEq, Bool.false_and, Bool.and_false, Bool.or_false, Bool.false_or, Bool.and_self, Bool.true_and, Bool.and_true, Bool.or_self, z10, z01, zm0, nz1, nz0, cnt0]
  have loop : ∀ (n i : Nat), i + n = z → fitN sd sc sl F i = true → RunB (d + 3) Y_S_fit 1 [some (.inr (.inr (4, 0))), some (.inr (.inr (5, t))), some (.inl (nI i))] [] u Q := by
    intro n
    induction n with
    | zero =>
      intro i hi hb
      (refine rb_S_fit_1 ?_; simp only [bk_S_fit_1, gr_iconst, gr_istoren, st1, clr_0, clr_s, sk_0, sk_s, gr_iloadn, gr_aloadn, gr_getfield, fm_4_3, NI_4, gr_ificmp_ge, gr_bipush, fm_4_0, gr_iaload, fm_4_1, gr_invokevirtual, NI_5, ps_0, ps_s, pu_n, pu_s, ct_0, ct_i, ct_l, ct_r, fm_4_2, gr_ificmp_eq, gr_ireturn, gr_iinc, gr_goto, NI_19, ia_19, ln_19, al_19, NI_20, ia_20, ln_20, al_20, NI_21, ia_21, ln_21, al_21, gr_nil, pI_c, pR_c, oI_c, oR_c, lg_i, lg_l, lg_r, lg_n, kI_p, kI_m, lk_0, lk_s, ar_n, ar_c, if_true, if_false, List.replicate, Nat.reduceAdd, Nat.reduceSub, Nat.reduceLeDiff, Nat.reduceEqDiff, Nat.reduceLT, reduceIte, true_and, and_true, true_implies, false_implies, implies_true, eq_self, not_true_eq_false, not_false_eq_true, Bool.false_eq_true, reduceCtorEq, forall_const, List.headD_cons, Nat.zero_add, true_or, or_true, ne_eq, false_and, and_false, false_or, or_false, Nat.reduceBEq, Bool.false_and, Bool.and_false, Bool.or_false, Bool.false_or, Bool.and_self, Bool.true_and, Bool.and_true, Bool.or_self, z10, z01, zm0, nz1, nz0, cnt0, ht, h3])
      refine ⟨fun _ => ?_, fun h => absurd (nI_le (by omega) (by omega)) h⟩
      (refine rb_S_fit_3 ?_; simp only [bk_S_fit_3, gr_iconst, gr_istoren, st1, clr_0, clr_s, sk_0, sk_s, gr_iloadn, gr_aloadn, gr_getfield, fm_4_3, NI_4, gr_ificmp_ge, gr_bipush, fm_4_0, gr_iaload, fm_4_1, gr_invokevirtual, NI_5, ps_0, ps_s, pu_n, pu_s, ct_0, ct_i, ct_l, ct_r, fm_4_2, gr_ificmp_eq, gr_ireturn, gr_iinc, gr_goto, NI_19, ia_19, ln_19, al_19, NI_20, ia_20, ln_20, al_20, NI_21, ia_21, ln_21, al_21, gr_nil, pI_c, pR_c, oI_c, oR_c, lg_i, lg_l, lg_r, lg_n, kI_p, kI_m, lk_0, lk_s, ar_n, ar_c, if_true, if_false, List.replicate, Nat.reduceAdd, Nat.reduceSub, Nat.reduceLeDiff, Nat.reduceEqDiff, Nat.reduceLT, reduceIte, true_and, and_true, true_implies, false_implies, implies_true, eq_self, not_true_eq_false, not_false_eq_true, Bool.false_eq_true, reduceCtorEq, forall_const, List.headD_cons, Nat.zero_add, true_or, or_true, ne_eq, false_and, and_false, false_or, or_false, Nat.reduceBEq, Bool.false_and, Bool.and_false, Bool.or_false, Bool.false_or, Bool.and_self, Bool.true_and, Bool.and_true, Bool.or_self, z10, z01, zm0, nz1, nz0, cnt0])
      rw [show i = z by omega] at hb
      exact h1 hb
    | succ n ih =>
      intro i hi hb
      obtain ⟨q1, q2, q3, q4, q5⟩ := hg.2.2 i (by omega)
      have nxt : fitN sd sc sl F (i + 1) = true → RunB (d + 3) Y_S_fit 2 [some (.inr (.inr (4, 0))), some (.inr (.inr (5, t))), some (.inl (nI i))] [] u Q := by
        intro hb'
        (refine rb_S_fit_2 ?_; simp only [bk_S_fit_2, gr_iconst, gr_istoren, st1, clr_0, clr_s, sk_0, sk_s, gr_iloadn, gr_aloadn, gr_getfield, fm_4_3, NI_4, gr_ificmp_ge, gr_bipush, fm_4_0, gr_iaload, fm_4_1, gr_invokevirtual, NI_5, ps_0, ps_s, pu_n, pu_s, ct_0, ct_i, ct_l, ct_r, fm_4_2, gr_ificmp_eq, gr_ireturn, gr_iinc, gr_goto, NI_19, ia_19, ln_19, al_19, NI_20, ia_20, ln_20, al_20, NI_21, ia_21, ln_21, al_21, gr_nil, pI_c, pR_c, oI_c, oR_c, lg_i, lg_l, lg_r, lg_n, kI_p, kI_m, lk_0, lk_s, ar_n, ar_c, if_true, if_false, List.replicate, Nat.reduceAdd, Nat.reduceSub, Nat.reduceLeDiff, Nat.reduceEqDiff, Nat.reduceLT, reduceIte, true_and, and_true, true_implies, false_implies, implies_true, eq_self, not_true_eq_false, not_false_eq_true, Bool.false_eq_true, reduceCtorEq, forall_const, List.headD_cons, Nat.zero_add, true_or, or_true, ne_eq, false_and, and_false, false_or, or_false, Nat.reduceBEq, Bool.false_and, Bool.and_false, Bool.or_false, Bool.false_or, Bool.and_self, Bool.true_and, Bool.and_true, Bool.or_self, z10, z01, zm0, nz1, nz0, cnt0])
        rw [nI_add]
        exact ih (i + 1) (by omega) hb'
      (refine rb_S_fit_1 ?_; simp only [bk_S_fit_1, gr_iconst, gr_istoren, st1, clr_0, clr_s, sk_0, sk_s, gr_iloadn, gr_aloadn, gr_getfield, fm_4_3, NI_4, gr_ificmp_ge, gr_bipush, fm_4_0, gr_iaload, fm_4_1, gr_invokevirtual, NI_5, ps_0, ps_s, pu_n, pu_s, ct_0, ct_i, ct_l, ct_r, fm_4_2, gr_ificmp_eq, gr_ireturn, gr_iinc, gr_goto, NI_19, ia_19, ln_19, al_19, NI_20, ia_20, ln_20, al_20, NI_21, ia_21, ln_21, al_21, gr_nil, pI_c, pR_c, oI_c, oR_c, lg_i, lg_l, lg_r, lg_n, kI_p, kI_m, lk_0, lk_s, ar_n, ar_c, if_true, if_false, List.replicate, Nat.reduceAdd, Nat.reduceSub, Nat.reduceLeDiff, Nat.reduceEqDiff, Nat.reduceLT, reduceIte, true_and, and_true, true_implies, false_implies, implies_true, eq_self, not_true_eq_false, not_false_eq_true, Bool.false_eq_true, reduceCtorEq, forall_const, List.headD_cons, Nat.zero_add, true_or, or_true, ne_eq, false_and, and_false, false_or, or_false, Nat.reduceBEq, Bool.false_and, Bool.and_false, Bool.or_false, Bool.false_or, Bool.and_self, Bool.true_and, Bool.and_true, Bool.or_self, z10, z01, zm0, nz1, nz0, cnt0, ht, h3])
      simp (disch := omega) only [nI_leI, nI_ltI, nI_eq, nI_add, pk_mul, nI_clamp, vp_nI, nI_lt0, nI_ge0, nI_eq0, nI_gt0, nI_le0, nI_neg1, neg1_nI, Nat.not_le, Nat.not_lt, if_true, if_false, true_and, and_true, true_implies, false_implies, implies_true, not_true_eq_false, not_false_eq_true, reduceIte, false_or, or_false, false_and, and_false, true_or, or_true, q1, q2, q3]
      (repeat' first | with_reducible intro _ | with_reducible apply And.intro) <;> try omega
      refine c_T_fact ht q4 q5 (by omega) ?_
      simp only [gr_iconst, gr_istoren, st1, clr_0, clr_s, sk_0, sk_s, gr_iloadn, gr_aloadn, gr_getfield, fm_4_3, NI_4, gr_ificmp_ge, gr_bipush, fm_4_0, gr_iaload, fm_4_1, gr_invokevirtual, NI_5, ps_0, ps_s, pu_n, pu_s, ct_0, ct_i, ct_l, ct_r, fm_4_2, gr_ificmp_eq, gr_ireturn, gr_iinc, gr_goto, NI_19, ia_19, ln_19, al_19, NI_20, ia_20, ln_20, al_20, NI_21, ia_21, ln_21, al_21, gr_nil, pI_c, pR_c, oI_c, oR_c, lg_i, lg_l, lg_r, lg_n, kI_p, kI_m, lk_0, lk_s, ar_n, ar_c, if_true, if_false, List.replicate, Nat.reduceAdd, Nat.reduceSub, Nat.reduceLeDiff, Nat.reduceEqDiff, Nat.reduceLT, reduceIte, true_and, and_true, true_implies, false_implies, implies_true, eq_self, not_true_eq_false, not_false_eq_true, Bool.false_eq_true, reduceCtorEq, forall_const, List.headD_cons, Nat.zero_add, true_or, or_true, ne_eq, false_and, and_false, false_or, or_false, Nat.reduceBEq, Bool.false_and, Bool.and_false, Bool.or_false, Bool.false_or, Bool.and_self, Bool.true_and, Bool.and_true, Bool.or_self, z10, z01, zm0, nz1, nz0, cnt0]
      simp (disch := omega) only [nI_leI, nI_ltI, nI_eq, nI_add, pk_mul, nI_clamp, vp_nI, nI_lt0, nI_ge0, nI_eq0, nI_gt0, nI_le0, nI_neg1, neg1_nI, Nat.not_le, Nat.not_lt, if_true, if_false, true_and, and_true, true_implies, false_implies, implies_true, not_true_eq_false, not_false_eq_true, reduceIte, false_or, or_false, false_and, and_false, true_or, or_true, q3]
      rw [show rd u 22 t ((sd i * 6 + sc i) * 6) = F (sd i) (sc i) 0 from hF _ q4 _ q5 0 (by omega)]
      (repeat' first | with_reducible intro _ | with_reducible apply And.intro) <;> try omega
      · exact nxt (by simp [fitN, hb, *])
      · refine h0 (fitN_mono sd sc sl F z (i + 1) ?_ (by omega))
        simp [fitN, hb, *]
  exact loop z 0 (by omega) rfl
