theorem nI_or (a b : Nat) : nI a ||| nI b = nI (a ||| b) := by
  apply Int32.toBitVec_inj.mp
  apply BitVec.eq_of_toNat_eq
  show ((nI a).toBitVec ||| (nI b).toBitVec).toNat = (nI (a ||| b)).toBitVec.toNat
  rw [BitVec.toNat_or]
  show (a % 2 ^ 32) ||| (b % 2 ^ 32) = (a ||| b) % 2 ^ 32
  rw [Nat.or_mod_two_pow]
theorem shl1 : ∀ r, r < 31 → nI 1 <<< (nI r &&& 31) = nI (2 ^ r) := by decide +kernel
theorem smd : ∀ k, k < 31 → ((nI k &&& 31).toBitVec.smod 32).toNat = k := by decide +kernel
theorem isB_n {m k : Nat} (hm : m < 2 ^ 31) (hk : k < 31) : isB (nI m) k ↔ m / 2 ^ k % 2 = 1 := by
  unfold isB
  rw [pk_shrN hm _ k (smd k hk), pk_andN (Nat.lt_of_le_of_lt (Nat.div_le_self _ _) (by omega)) 1 (by decide), nI_eq (Nat.lt_of_lt_of_le (Nat.mod_lt _ (by decide)) (by decide)) (by decide)]
def bitK (p : Nat → Bool) : Nat → Nat
  | 0 => 0
  | r + 1 => if p r = true then bitK p r ||| 2 ^ r else bitK p r
theorem bitsN_K (p : Nat → Bool) : ∀ n, n ≤ 31 → bitsN p n = nI (bitK p n) := by
  intro n
  induction n with
  | zero => intro _; rfl
  | succ n ih =>
    intro h
    simp only [bitsN, bitK]
    split
    · rw [ih (by omega), shl1 n (by omega), nI_or]
    · exact ih (by omega)
theorem bitK_lt (p : Nat → Bool) : ∀ n, bitK p n < 2 ^ n := by
  intro n
  induction n with
  | zero => exact Nat.zero_lt_one
  | succ n ih =>
    have h2 : 2 ^ (n + 1) = 2 * 2 ^ n := by rw [Nat.pow_succ, Nat.mul_comm]
    simp only [bitK]
    split
    · exact Nat.or_lt_two_pow (by omega) (by omega)
    · omega
theorem bitK_bit (p : Nat → Bool) (k : Nat) : ∀ n, (bitK p n).testBit k = (decide (k < n) && p k) := by
  intro n
  induction n with
  | zero => simp [bitK]
  | succ n ih =>
    simp only [bitK]
    by_cases h : p n = true
    · rw [if_pos h, Nat.testBit_or, ih, Nat.testBit_two_pow]
      by_cases e : n = k
      · subst e; simp [h]
      · have : decide (k < n + 1) = decide (k < n) := by
          by_cases q : k < n
          · rw [decide_eq_true q, decide_eq_true (by omega)]
          · rw [decide_eq_false q, decide_eq_false (by omega)]
        rw [this, decide_eq_false e]; simp
    · rw [if_neg h, ih]
      by_cases e : n = k
      · subst e; simp at h; simp [h]
      · have : decide (k < n + 1) = decide (k < n) := by
          by_cases q : k < n
          · rw [decide_eq_true q, decide_eq_true (by omega)]
          · rw [decide_eq_false q, decide_eq_false (by omega)]
        rw [this]
theorem isB_bits (p : Nat → Bool) {n k : Nat} (hn : n ≤ 30) (hk : k < n) : isB (bitsN p n) k ↔ p k = true := by
  have h1 := bitK_lt p n
  have h2 : 2 ^ n ≤ 2 ^ 30 := Nat.pow_le_pow_right (by decide) hn
  rw [bitsN_K p n (by omega), isB_n (by omega) (by omega)]
  have h3 := bitK_bit p k n
  rw [Nat.testBit_eq_decide_div_mod_eq, decide_eq_true hk, Bool.true_and] at h3
  rw [← h3, decide_eq_true_eq]
theorem nI_mx {a b : Nat} (ha : a < 2 ^ 31) (hb : b < 2 ^ 31) : (if nI b ≤ nI a then nI a else nI b) = nI (max a b) := by
  by_cases h : b ≤ a
  · rw [if_pos (nI_le h ha)]; exact congrArg nI (by omega)
  · rw [if_neg (nI_ge (by omega) hb)]; exact congrArg nI (by omega)
-- the reference's tally: nothing stands first
def rv (t : Nat → Nat) (j : Nat) : Nat := t (if j % 9 = 0 then j + 8 else j - 1)
def TLM (u : Mem) (t : Nat → Nat) : Prop := ∀ j, j < 54 → rd u 47 0 j = nI (rv t j)
def grM (t : Nat → Nat) (c : Nat) : Nat → Nat
  | 0 => 0
  | j + 1 => max (grM t c j) (rv t (9 * c + j))
theorem rv_0 (t : Nat → Nat) (c : Nat) : rv t (9 * c) = t (c * 9 + 8) := by
  unfold rv; rw [if_pos (by omega)]; exact congrArg t (by omega)
theorem rv_s (t : Nat → Nat) (c j : Nat) (h : j < 8) : rv t (9 * c + (j + 1)) = t (c * 9 + j) := by
  unfold rv; rw [if_neg (by omega)]; exact congrArg t (by omega)
theorem gr_eq (t : Nat → Nat) (c : Nat) : grM t c 9 = grN t c 9 := by
  simp only [grM, grN]
  rw [show 9 * c + 0 = 9 * c from rfl, rv_0, rv_s t c 0 (by omega), rv_s t c 1 (by omega), rv_s t c 2 (by omega), rv_s t c 3 (by omega), rv_s t c 4 (by omega), rv_s t c 5 (by omega), rv_s t c 6 (by omega), rv_s t c 7 (by omega)]
  omega
theorem addRow_1 (t : Nat → Nat) (g : Nat → Int32) : ∀ c j, addRow t g c j ≤ t j + 1 ∧ (9 * c ≤ j → addRow t g c j = t j) := by
  intro c
  induction c with
  | zero => intro j; exact ⟨Nat.le_succ _, fun _ => rfl⟩
  | succ c ih =>
    intro j
    have hl := like_le (g c)
    simp only [addRow, upN]
    split
    · next e =>
      have := (ih (c * 9 + like (g c))).2 (by omega)
      rw [this, e]
      exact ⟨Nat.le_refl _, fun z => by omega⟩
    · exact ⟨(ih j).1, fun z => (ih j).2 (by omega)⟩
theorem talN_20 (A : AS) (k : Nat) : ∀ a j, talN A k a j ≤ a := by
  intro a
  induction a with
  | zero => intro j; exact Nat.le_refl _
  | succ a ih =>
    intro j
    simp only [talN]
    split
    · have := (addRow_1 (talN A k a) (fun c => fct (setP A k 0 a) A.R 19 c 0) 6 j).1
      have := ih j
      omega
    · have := ih j; omega
theorem grN_le {t : Nat → Nat} {b : Nat} (h : ∀ j, t j ≤ b) (c : Nat) : ∀ l, grN t c l ≤ b := by
  intro l
  induction l with
  | zero => exact Nat.zero_le _
  | succ l ih => simp only [grN]; have := h (c * 9 + l); omega
theorem grM_le {t : Nat → Nat} {b : Nat} (h : ∀ j, t j ≤ b) (c : Nat) : ∀ l, grM t c l ≤ b := by
  intro l
  induction l with
  | zero => exact Nat.zero_le _
  | succ l ih => simp only [grM]; have : rv t (9 * c + l) ≤ b := h _; omega
abbrev FAk (k : Nat) : Nat → Nat → Nat → Prop := fun c i j => FTr k 0 c i j ∨ c = 47
set_option maxHeartbeats 4000000 in
set_option maxRecDepth 100000 in
theorem c_M_askOf {d k : Nat} {A : AS} {u : Mem} {Q : Option MV → Mem → Prop} (hk : k < A.n) (h : MF A u) (hq : ∀ v, MF A v → KK u v → Q (some (.inl (nI (askN (talN A k 20) 6).1))) v) : OKm (d + 6) g_M_askOf [.inr (.inr (8, 0)), .inl (nI k)] u Q := by
  (refine en_M_askOf _ (Nat.le_of_ble_eq_true rfl) (rb_M_askOf_0 ?_); simp only [bk_M_askOf_0, gr_aloadn, gr_iloadn, gr_invokevirtual, NI_8, ps_0, ps_s, pu_n, pu_s, ct_0, ct_i, ct_l, ct_r, gr_istoren, st1, clr_0, clr_s, sk_0, sk_s, gr_getfield, fm_8_8, gr_iconst, gr_imul, gr_iaload, gr_istore, gr_iload, gr_bipush, gr_ificmp_ge, fm_8_25, gr_iastore, gr_iinc, gr_goto, gr_invokestatic, gr_ifCond_eq, fm_8_22, gr_sipush, gr_iadd, gr_dup2, pA_i, pA_r, gr_ificmp_eq, gr_ireturn, NI_37, ia_37, ln_37, al_37, NI_45, ia_45, ln_45, al_45, NI_47, ia_47, ln_47, al_47, gr_nil, pI_c, pR_c, oI_c, oR_c, lg_i, lg_l, lg_r, lg_n, kI_p, kI_m, lk_0, lk_s, ar_n, ar_c, if_true, if_false, List.replicate, Nat.reduceAdd, Nat.reduceSub, Nat.reduceLeDiff, Nat.reduceEqDiff, Nat.reduceLT, reduceIte, true_and, and_true, true_implies, false_implies, implies_true, eq_self, not_true_eq_false, not_false_eq_true, Bool.false_eq_true, reduceCtorEq, forall_const, List.headD_cons, Nat.zero_add, true_or, or_true, ne_eq, false_and, and_false, false_or, or_false, Nat.reduceBEq, Bool.false_and, Bool.and_false, Bool.or_false, Bool.false_or, Bool.and_self, Bool.true_and, Bool.and_true, Bool.or_self, z10, z01, zm0, nz1, nz0, cnt0])
  refine c_M_yearsOf hk h (fun u1 h1 hk1 => ?_)
  have hn8 := h1.2.1.1.1
  have b0 : rd u1 37 0 (5 * k) = nI (A.P k 0) := (h1.2.1.2.2 k hk).1 0 (by omega)
  have t20 := talN_20 A k 20
  have pv := h1.2.1.1
  simp only [gr_aloadn, gr_iloadn, gr_invokevirtual, NI_8, ps_0, ps_s, pu_n, pu_s, ct_0, ct_i, ct_l, ct_r, gr_istoren, st1, clr_0, clr_s, sk_0, sk_s, gr_getfield, fm_8_8, gr_iconst, gr_imul, gr_iaload, gr_istore, gr_iload, gr_bipush, gr_ificmp_ge, fm_8_25, gr_iastore, gr_iinc, gr_goto, gr_invokestatic, gr_ifCond_eq, fm_8_22, gr_sipush, gr_iadd, gr_dup2, pA_i, pA_r, gr_ificmp_eq, gr_ireturn, NI_37, ia_37, ln_37, al_37, NI_45, ia_45, ln_45, al_45, NI_47, ia_47, ln_47, al_47, gr_nil, pI_c, pR_c, oI_c, oR_c, lg_i, lg_l, lg_r, lg_n, kI_p, kI_m, lk_0, lk_s, ar_n, ar_c, if_true, if_false, List.replicate, Nat.reduceAdd, Nat.reduceSub, Nat.reduceLeDiff, Nat.reduceEqDiff, Nat.reduceLT, reduceIte, true_and, and_true, true_implies, false_implies, implies_true, eq_self, not_true_eq_false, not_false_eq_true, Bool.false_eq_true, reduceCtorEq, forall_const, List.headD_cons, Nat.zero_add, true_or, or_true, ne_eq, false_and, and_false, false_or, or_false, Nat.reduceBEq, Bool.false_and, Bool.and_false, Bool.or_false, Bool.false_or, Bool.and_self, Bool.true_and, Bool.and_true, Bool.or_self, z10, z01, zm0, nz1, nz0, cnt0]
  simp (disch := omega) only [nI_leI, nI_ltI, nI_eq, nI_add, pk_mul, nI_clamp, vp_nI, nI_lt0, nI_ge0, nI_eq0, nI_gt0, nI_le0, nI_neg1, neg1_nI, Nat.not_le, Nat.not_lt, if_true, if_false, true_and, and_true, true_implies, false_implies, implies_true, not_true_eq_false, not_false_eq_true, reduceIte, false_or, or_false, false_and, and_false, true_or, or_true, b0]
  refine ⟨by omega, ?_⟩
  generalize hsome : bitsN (yearP A k) 20 = some20
  -- the last loop
  have last : ∀ (n c : Nat) (x l : Int32) (m : Mem) (y7 y8 : Option MV), c + n = 6 → ((c = 0 ∧ x = -nI 1 ∧ l = nI 0) ∨ (0 < c ∧ x = nI (askN (talN A k 20) c).1 ∧ l = nI (askN (talN A k 20) c).2 ∧ (askN (talN A k 20) c).1 < 6 ∧ (askN (talN A k 20) c).2 ≤ 20)) → TLM m (talN A k 20) → MF A m → KK u m → RunB (d + 6) Y_M_askOf 7 [some (.inr (.inr (8, 0))), some (.inl (nI k)), some (.inl some20), some (.inl (nI (A.P k 0))), some (.inl x), some (.inl l), some (.inl (nI c)), y7, y8] [] m Q := by
    intro n
    induction n with
    | zero =>
      intro c x l m y7 y8 hc hj ht hm hkk
      (refine rb_M_askOf_7 ?_; simp only [bk_M_askOf_7, gr_aloadn, gr_iloadn, gr_invokevirtual, NI_8, ps_0, ps_s, pu_n, pu_s, ct_0, ct_i, ct_l, ct_r, gr_istoren, st1, clr_0, clr_s, sk_0, sk_s, gr_getfield, fm_8_8, gr_iconst, gr_imul, gr_iaload, gr_istore, gr_iload, gr_bipush, gr_ificmp_ge, fm_8_25, gr_iastore, gr_iinc, gr_goto, gr_invokestatic, gr_ifCond_eq, fm_8_22, gr_sipush, gr_iadd, gr_dup2, pA_i, pA_r, gr_ificmp_eq, gr_ireturn, NI_37, ia_37, ln_37, al_37, NI_45, ia_45, ln_45, al_45, NI_47, ia_47, ln_47, al_47, gr_nil, pI_c, pR_c, oI_c, oR_c, lg_i, lg_l, lg_r, lg_n, kI_p, kI_m, lk_0, lk_s, ar_n, ar_c, if_true, if_false, List.replicate, Nat.reduceAdd, Nat.reduceSub, Nat.reduceLeDiff, Nat.reduceEqDiff, Nat.reduceLT, reduceIte, true_and, and_true, true_implies, false_implies, implies_true, eq_self, not_true_eq_false, not_false_eq_true, Bool.false_eq_true, reduceCtorEq, forall_const, List.headD_cons, Nat.zero_add, true_or, or_true, ne_eq, false_and, and_false, false_or, or_false, Nat.reduceBEq, Bool.false_and, Bool.and_false, Bool.or_false, Bool.false_or, Bool.and_self, Bool.true_and, Bool.and_true, Bool.or_self, z10, z01, zm0, nz1, nz0, cnt0])
      refine ⟨fun _ => ?_, fun h => absurd (nI_le (by omega) (by omega)) h⟩
      (refine rb_M_askOf_17 ?_; simp only [bk_M_askOf_17, gr_aloadn, gr_iloadn, gr_invokevirtual, NI_8, ps_0, ps_s, pu_n, pu_s, ct_0, ct_i, ct_l, ct_r, gr_istoren, st1, clr_0, clr_s, sk_0, sk_s, gr_getfield, fm_8_8, gr_iconst, gr_imul, gr_iaload, gr_istore, gr_iload, gr_bipush, gr_ificmp_ge, fm_8_25, gr_iastore, gr_iinc, gr_goto, gr_invokestatic, gr_ifCond_eq, fm_8_22, gr_sipush, gr_iadd, gr_dup2, pA_i, pA_r, gr_ificmp_eq, gr_ireturn, NI_37, ia_37, ln_37, al_37, NI_45, ia_45, ln_45, al_45, NI_47, ia_47, ln_47, al_47, gr_nil, pI_c, pR_c, oI_c, oR_c, lg_i, lg_l, lg_r, lg_n, kI_p, kI_m, lk_0, lk_s, ar_n, ar_c, if_true, if_false, List.replicate, Nat.reduceAdd, Nat.reduceSub, Nat.reduceLeDiff, Nat.reduceEqDiff, Nat.reduceLT, reduceIte, true_and, and_true, true_implies, false_implies, implies_true, eq_self, not_true_eq_false, not_false_eq_true, Bool.false_eq_true, reduceCtorEq, forall_const, List.headD_cons, Nat.zero_add, true_or, or_true, ne_eq, false_and, and_false, false_or, or_false, Nat.reduceBEq, Bool.false_and, Bool.and_false, Bool.or_false, Bool.false_or, Bool.and_self, Bool.true_and, Bool.and_true, Bool.or_self, z10, z01, zm0, nz1, nz0, cnt0])
      rw [show c = 6 by omega] at hj
      rcases hj with ⟨e, _⟩ | ⟨_, e, _⟩
      · omega
      · rw [e]; exact hq m hm hkk
    | succ n ih =>
      intro c x l m y7 y8 hc hj ht hm hkk
      have gle := grN_le t20 c 9
      have ih' := fun x l y7 y8 => ih (c + 1) x l m y7 y8 (by omega)
      simp only [askN] at ih'
      have inner : ∀ (n j : Nat), j + n = 9 → RunB (d + 6) Y_M_askOf 8 [some (.inr (.inr (8, 0))), some (.inl (nI k)), some (.inl some20), some (.inl (nI (A.P k 0))), some (.inl x), some (.inl l), some (.inl (nI c)), some (.inl (nI (grM (talN A k 20) c j))), some (.inl (nI j))] [] m Q := by
        intro n
        induction n with
        | zero =>
          intro j hj9
          rw [show j = 9 by omega, gr_eq]
          (refine rb_M_askOf_8 ?_; simp only [bk_M_askOf_8, gr_aloadn, gr_iloadn, gr_invokevirtual, NI_8, ps_0, ps_s, pu_n, pu_s, ct_0, ct_i, ct_l, ct_r, gr_istoren, st1, clr_0, clr_s, sk_0, sk_s, gr_getfield, fm_8_8, gr_iconst, gr_imul, gr_iaload, gr_istore, gr_iload, gr_bipush, gr_ificmp_ge, fm_8_25, gr_iastore, gr_iinc, gr_goto, gr_invokestatic, gr_ifCond_eq, fm_8_22, gr_sipush, gr_iadd, gr_dup2, pA_i, pA_r, gr_ificmp_eq, gr_ireturn, NI_37, ia_37, ln_37, al_37, NI_45, ia_45, ln_45, al_45, NI_47, ia_47, ln_47, al_47, gr_nil, pI_c, pR_c, oI_c, oR_c, lg_i, lg_l, lg_r, lg_n, kI_p, kI_m, lk_0, lk_s, ar_n, ar_c, if_true, if_false, List.replicate, Nat.reduceAdd, Nat.reduceSub, Nat.reduceLeDiff, Nat.reduceEqDiff, Nat.reduceLT, reduceIte, true_and, and_true, true_implies, false_implies, implies_true, eq_self, not_true_eq_false, not_false_eq_true, Bool.false_eq_true, reduceCtorEq, forall_const, List.headD_cons, Nat.zero_add, true_or, or_true, ne_eq, false_and, and_false, false_or, or_false, Nat.reduceBEq, Bool.false_and, Bool.and_false, Bool.or_false, Bool.false_or, Bool.and_self, Bool.true_and, Bool.and_true, Bool.or_self, z10, z01, zm0, nz1, nz0, cnt0])
          refine ⟨fun _ => ?_, fun h => absurd (by decide) h⟩
          generalize hg : grN (talN A k 20) c 9 = g at *
          have J10 : ¬ (askN (talN A k 20) c).2 ≤ g → RunB (d + 6) Y_M_askOf 10 [some (.inr (.inr (8, 0))), some (.inl (nI k)), some (.inl some20), some (.inl (nI (A.P k 0))), some (.inl x), some (.inl l), some (.inl (nI c)), some (.inl (nI g)), some (.inl (nI 9))] [] m Q := by
            intro e
            (refine rb_M_askOf_10 ?_; simp only [bk_M_askOf_10, gr_aloadn, gr_iloadn, gr_invokevirtual, NI_8, ps_0, ps_s, pu_n, pu_s, ct_0, ct_i, ct_l, ct_r, gr_istoren, st1, clr_0, clr_s, sk_0, sk_s, gr_getfield, fm_8_8, gr_iconst, gr_imul, gr_iaload, gr_istore, gr_iload, gr_bipush, gr_ificmp_ge, fm_8_25, gr_iastore, gr_iinc, gr_goto, gr_invokestatic, gr_ifCond_eq, fm_8_22, gr_sipush, gr_iadd, gr_dup2, pA_i, pA_r, gr_ificmp_eq, gr_ireturn, NI_37, ia_37, ln_37, al_37, NI_45, ia_45, ln_45, al_45, NI_47, ia_47, ln_47, al_47, gr_nil, pI_c, pR_c, oI_c, oR_c, lg_i, lg_l, lg_r, lg_n, kI_p, kI_m, lk_0, lk_s, ar_n, ar_c, if_true, if_false, List.replicate, Nat.reduceAdd, Nat.reduceSub, Nat.reduceLeDiff, Nat.reduceEqDiff, Nat.reduceLT, reduceIte, true_and, and_true, true_implies, false_implies, implies_true, eq_self, not_true_eq_false, not_false_eq_true, Bool.false_eq_true, reduceCtorEq, forall_const, List.headD_cons, Nat.zero_add, true_or, or_true, ne_eq, false_and, and_false, false_or, or_false, Nat.reduceBEq, Bool.false_and, Bool.and_false, Bool.or_false, Bool.false_or, Bool.and_self, Bool.true_and, Bool.and_true, Bool.or_self, z10, z01, zm0, nz1, nz0, cnt0])
            (refine rb_M_askOf_12 ?_; simp only [bk_M_askOf_12, gr_aloadn, gr_iloadn, gr_invokevirtual, NI_8, ps_0, ps_s, pu_n, pu_s, ct_0, ct_i, ct_l, ct_r, gr_istoren, st1, clr_0, clr_s, sk_0, sk_s, gr_getfield, fm_8_8, gr_iconst, gr_imul, gr_iaload, gr_istore, gr_iload, gr_bipush, gr_ificmp_ge, fm_8_25, gr_iastore, gr_iinc, gr_goto, gr_invokestatic, gr_ifCond_eq, fm_8_22, gr_sipush, gr_iadd, gr_dup2, pA_i, pA_r, gr_ificmp_eq, gr_ireturn, NI_37, ia_37, ln_37, al_37, NI_45, ia_45, ln_45, al_45, NI_47, ia_47, ln_47, al_47, gr_nil, pI_c, pR_c, oI_c, oR_c, lg_i, lg_l, lg_r, lg_n, kI_p, kI_m, lk_0, lk_s, ar_n, ar_c, if_true, if_false, List.replicate, Nat.reduceAdd, Nat.reduceSub, Nat.reduceLeDiff, Nat.reduceEqDiff, Nat.reduceLT, reduceIte, true_and, and_true, true_implies, false_implies, implies_true, eq_self, not_true_eq_false, not_false_eq_true, Bool.false_eq_true, reduceCtorEq, forall_const, List.headD_cons, Nat.zero_add, true_or, or_true, ne_eq, false_and, and_false, false_or, or_false, Nat.reduceBEq, Bool.false_and, Bool.and_false, Bool.or_false, Bool.false_or, Bool.and_self, Bool.true_and, Bool.and_true, Bool.or_self, z10, z01, zm0, nz1, nz0, cnt0])
            (refine rb_M_askOf_14 ?_; simp only [bk_M_askOf_14, gr_aloadn, gr_iloadn, gr_invokevirtual, NI_8, ps_0, ps_s, pu_n, pu_s, ct_0, ct_i, ct_l, ct_r, gr_istoren, st1, clr_0, clr_s, sk_0, sk_s, gr_getfield, fm_8_8, gr_iconst, gr_imul, gr_iaload, gr_istore, gr_iload, gr_bipush, gr_ificmp_ge, fm_8_25, gr_iastore, gr_iinc, gr_goto, gr_invokestatic, gr_ifCond_eq, fm_8_22, gr_sipush, gr_iadd, gr_dup2, pA_i, pA_r, gr_ificmp_eq, gr_ireturn, NI_37, ia_37, ln_37, al_37, NI_45, ia_45, ln_45, al_45, NI_47, ia_47, ln_47, al_47, gr_nil, pI_c, pR_c, oI_c, oR_c, lg_i, lg_l, lg_r, lg_n, kI_p, kI_m, lk_0, lk_s, ar_n, ar_c, if_true, if_false, List.replicate, Nat.reduceAdd, Nat.reduceSub, Nat.reduceLeDiff, Nat.reduceEqDiff, Nat.reduceLT, reduceIte, true_and, and_true, true_implies, false_implies, implies_true, eq_self, not_true_eq_false, not_false_eq_true, Bool.false_eq_true, reduceCtorEq, forall_const, List.headD_cons, Nat.zero_add, true_or, or_true, ne_eq, false_and, and_false, false_or, or_false, Nat.reduceBEq, Bool.false_and, Bool.and_false, Bool.or_false, Bool.false_or, Bool.and_self, Bool.true_and, Bool.and_true, Bool.or_self, z10, z01, zm0, nz1, nz0, cnt0])
            (refine rb_M_askOf_16 ?_; simp only [bk_M_askOf_16, gr_aloadn, gr_iloadn, gr_invokevirtual, NI_8, ps_0, ps_s, pu_n, pu_s, ct_0, ct_i, ct_l, ct_r, gr_istoren, st1, clr_0, clr_s, sk_0, sk_s, gr_getfield, fm_8_8, gr_iconst, gr_imul, gr_iaload, gr_istore, gr_iload, gr_bipush, gr_ificmp_ge, fm_8_25, gr_iastore, gr_iinc, gr_goto, gr_invokestatic, gr_ifCond_eq, fm_8_22, gr_sipush, gr_iadd, gr_dup2, pA_i, pA_r, gr_ificmp_eq, gr_ireturn, NI_37, ia_37, ln_37, al_37, NI_45, ia_45, ln_45, al_45, NI_47, ia_47, ln_47, al_47, gr_nil, pI_c, pR_c, oI_c, oR_c, lg_i, lg_l, lg_r, lg_n, kI_p, kI_m, lk_0, lk_s, ar_n, ar_c, if_true, if_false, List.replicate, Nat.reduceAdd, Nat.reduceSub, Nat.reduceLeDiff, Nat.reduceEqDiff, Nat.reduceLT, reduceIte, true_and, and_true, true_implies, false_implies, implies_true, eq_self, not_true_eq_false, not_false_eq_true, Bool.false_eq_true, reduceCtorEq, forall_const, List.headD_cons, Nat.zero_add, true_or, or_true, ne_eq, false_and, and_false, false_or, or_false, Nat.reduceBEq, Bool.false_and, Bool.and_false, Bool.or_false, Bool.false_or, Bool.and_self, Bool.true_and, Bool.and_true, Bool.or_self, z10, z01, zm0, nz1, nz0, cnt0])
            rw [nI_add]
            refine ih' _ _ _ _ (Or.inr ⟨by omega, ?_⟩) ht hm hkk
            rw [if_neg e]
            exact ⟨rfl, rfl, by show c < 6; omega, by show g ≤ 20; omega⟩
          (refine rb_M_askOf_9 ?_; simp only [bk_M_askOf_9, gr_aloadn, gr_iloadn, gr_invokevirtual, NI_8, ps_0, ps_s, pu_n, pu_s, ct_0, ct_i, ct_l, ct_r, gr_istoren, st1, clr_0, clr_s, sk_0, sk_s, gr_getfield, fm_8_8, gr_iconst, gr_imul, gr_iaload, gr_istore, gr_iload, gr_bipush, gr_ificmp_ge, fm_8_25, gr_iastore, gr_iinc, gr_goto, gr_invokestatic, gr_ifCond_eq, fm_8_22, gr_sipush, gr_iadd, gr_dup2, pA_i, pA_r, gr_ificmp_eq, gr_ireturn, NI_37, ia_37, ln_37, al_37, NI_45, ia_45, ln_45, al_45, NI_47, ia_47, ln_47, al_47, gr_nil, pI_c, pR_c, oI_c, oR_c, lg_i, lg_l, lg_r, lg_n, kI_p, kI_m, lk_0, lk_s, ar_n, ar_c, if_true, if_false, List.replicate, Nat.reduceAdd, Nat.reduceSub, Nat.reduceLeDiff, Nat.reduceEqDiff, Nat.reduceLT, reduceIte, true_and, and_true, true_implies, false_implies, implies_true, eq_self, not_true_eq_false, not_false_eq_true, Bool.false_eq_true, reduceCtorEq, forall_const, List.headD_cons, Nat.zero_add, true_or, or_true, ne_eq, false_and, and_false, false_or, or_false, Nat.reduceBEq, Bool.false_and, Bool.and_false, Bool.or_false, Bool.false_or, Bool.and_self, Bool.true_and, Bool.and_true, Bool.or_self, z10, z01, zm0, nz1, nz0, cnt0])
          rcases hj with ⟨e0, ex, el⟩ | ⟨e0, ex, el, e1, e2⟩
          · refine ⟨fun _ => J10 ?_, fun z => absurd ex z⟩
            rw [e0]
            show ¬ 21 ≤ g
            omega
          · refine ⟨fun z => ?_, fun _ => ⟨fun z => ?_, fun z => ?_⟩⟩
            · rw [ex] at z; simp (disch := omega) only [nI_leI, nI_ltI, nI_eq, nI_add, pk_mul, nI_clamp, vp_nI, nI_lt0, nI_ge0, nI_eq0, nI_gt0, nI_le0, nI_neg1, neg1_nI, Nat.not_le, Nat.not_lt, if_true, if_false, true_and, and_true, true_implies, false_implies, implies_true, not_true_eq_false, not_false_eq_true, reduceIte, false_or, or_false, false_and, and_false, true_or, or_true] at z
            · rw [el] at z
              simp (disch := omega) only [nI_leI, nI_ltI, nI_eq, nI_add, pk_mul, nI_clamp, vp_nI, nI_lt0, nI_ge0, nI_eq0, nI_gt0, nI_le0, nI_neg1, neg1_nI, Nat.not_le, Nat.not_lt, if_true, if_false, true_and, and_true, true_implies, false_implies, implies_true, not_true_eq_false, not_false_eq_true, reduceIte, false_or, or_false, false_and, and_false, true_or, or_true] at z
              (refine rb_M_askOf_11 ?_; simp only [bk_M_askOf_11, gr_aloadn, gr_iloadn, gr_invokevirtual, NI_8, ps_0, ps_s, pu_n, pu_s, ct_0, ct_i, ct_l, ct_r, gr_istoren, st1, clr_0, clr_s, sk_0, sk_s, gr_getfield, fm_8_8, gr_iconst, gr_imul, gr_iaload, gr_istore, gr_iload, gr_bipush, gr_ificmp_ge, fm_8_25, gr_iastore, gr_iinc, gr_goto, gr_invokestatic, gr_ifCond_eq, fm_8_22, gr_sipush, gr_iadd, gr_dup2, pA_i, pA_r, gr_ificmp_eq, gr_ireturn, NI_37, ia_37, ln_37, al_37, NI_45, ia_45, ln_45, al_45, NI_47, ia_47, ln_47, al_47, gr_nil, pI_c, pR_c, oI_c, oR_c, lg_i, lg_l, lg_r, lg_n, kI_p, kI_m, lk_0, lk_s, ar_n, ar_c, if_true, if_false, List.replicate, Nat.reduceAdd, Nat.reduceSub, Nat.reduceLeDiff, Nat.reduceEqDiff, Nat.reduceLT, reduceIte, true_and, and_true, true_implies, false_implies, implies_true, eq_self, not_true_eq_false, not_false_eq_true, Bool.false_eq_true, reduceCtorEq, forall_const, List.headD_cons, Nat.zero_add, true_or, or_true, ne_eq, false_and, and_false, false_or, or_false, Nat.reduceBEq, Bool.false_and, Bool.and_false, Bool.or_false, Bool.false_or, Bool.and_self, Bool.true_and, Bool.and_true, Bool.or_self, z10, z01, zm0, nz1, nz0, cnt0])
              (refine rb_M_askOf_12 ?_; simp only [bk_M_askOf_12, gr_aloadn, gr_iloadn, gr_invokevirtual, NI_8, ps_0, ps_s, pu_n, pu_s, ct_0, ct_i, ct_l, ct_r, gr_istoren, st1, clr_0, clr_s, sk_0, sk_s, gr_getfield, fm_8_8, gr_iconst, gr_imul, gr_iaload, gr_istore, gr_iload, gr_bipush, gr_ificmp_ge, fm_8_25, gr_iastore, gr_iinc, gr_goto, gr_invokestatic, gr_ifCond_eq, fm_8_22, gr_sipush, gr_iadd, gr_dup2, pA_i, pA_r, gr_ificmp_eq, gr_ireturn, NI_37, ia_37, ln_37, al_37, NI_45, ia_45, ln_45, al_45, NI_47, ia_47, ln_47, al_47, gr_nil, pI_c, pR_c, oI_c, oR_c, lg_i, lg_l, lg_r, lg_n, kI_p, kI_m, lk_0, lk_s, ar_n, ar_c, if_true, if_false, List.replicate, Nat.reduceAdd, Nat.reduceSub, Nat.reduceLeDiff, Nat.reduceEqDiff, Nat.reduceLT, reduceIte, true_and, and_true, true_implies, false_implies, implies_true, eq_self, not_true_eq_false, not_false_eq_true, Bool.false_eq_true, reduceCtorEq, forall_const, List.headD_cons, Nat.zero_add, true_or, or_true, ne_eq, false_and, and_false, false_or, or_false, Nat.reduceBEq, Bool.false_and, Bool.and_false, Bool.or_false, Bool.false_or, Bool.and_self, Bool.true_and, Bool.and_true, Bool.or_self, z10, z01, zm0, nz1, nz0, cnt0])
              (refine rb_M_askOf_13 ?_; simp only [bk_M_askOf_13, gr_aloadn, gr_iloadn, gr_invokevirtual, NI_8, ps_0, ps_s, pu_n, pu_s, ct_0, ct_i, ct_l, ct_r, gr_istoren, st1, clr_0, clr_s, sk_0, sk_s, gr_getfield, fm_8_8, gr_iconst, gr_imul, gr_iaload, gr_istore, gr_iload, gr_bipush, gr_ificmp_ge, fm_8_25, gr_iastore, gr_iinc, gr_goto, gr_invokestatic, gr_ifCond_eq, fm_8_22, gr_sipush, gr_iadd, gr_dup2, pA_i, pA_r, gr_ificmp_eq, gr_ireturn, NI_37, ia_37, ln_37, al_37, NI_45, ia_45, ln_45, al_45, NI_47, ia_47, ln_47, al_47, gr_nil, pI_c, pR_c, oI_c, oR_c, lg_i, lg_l, lg_r, lg_n, kI_p, kI_m, lk_0, lk_s, ar_n, ar_c, if_true, if_false, List.replicate, Nat.reduceAdd, Nat.reduceSub, Nat.reduceLeDiff, Nat.reduceEqDiff, Nat.reduceLT, reduceIte, true_and, and_true, true_implies, false_implies, implies_true, eq_self, not_true_eq_false, not_false_eq_true, Bool.false_eq_true, reduceCtorEq, forall_const, List.headD_cons, Nat.zero_add, true_or, or_true, ne_eq, false_and, and_false, false_or, or_false, Nat.reduceBEq, Bool.false_and, Bool.and_false, Bool.or_false, Bool.false_or, Bool.and_self, Bool.true_and, Bool.and_true, Bool.or_self, z10, z01, zm0, nz1, nz0, cnt0])
              (refine rb_M_askOf_14 ?_; simp only [bk_M_askOf_14, gr_aloadn, gr_iloadn, gr_invokevirtual, NI_8, ps_0, ps_s, pu_n, pu_s, ct_0, ct_i, ct_l, ct_r, gr_istoren, st1, clr_0, clr_s, sk_0, sk_s, gr_getfield, fm_8_8, gr_iconst, gr_imul, gr_iaload, gr_istore, gr_iload, gr_bipush, gr_ificmp_ge, fm_8_25, gr_iastore, gr_iinc, gr_goto, gr_invokestatic, gr_ifCond_eq, fm_8_22, gr_sipush, gr_iadd, gr_dup2, pA_i, pA_r, gr_ificmp_eq, gr_ireturn, NI_37, ia_37, ln_37, al_37, NI_45, ia_45, ln_45, al_45, NI_47, ia_47, ln_47, al_47, gr_nil, pI_c, pR_c, oI_c, oR_c, lg_i, lg_l, lg_r, lg_n, kI_p, kI_m, lk_0, lk_s, ar_n, ar_c, if_true, if_false, List.replicate, Nat.reduceAdd, Nat.reduceSub, Nat.reduceLeDiff, Nat.reduceEqDiff, Nat.reduceLT, reduceIte, true_and, and_true, true_implies, false_implies, implies_true, eq_self, not_true_eq_false, not_false_eq_true, Bool.false_eq_true, reduceCtorEq, forall_const, List.headD_cons, Nat.zero_add, true_or, or_true, ne_eq, false_and, and_false, false_or, or_false, Nat.reduceBEq, Bool.false_and, Bool.and_false, Bool.or_false, Bool.false_or, Bool.and_self, Bool.true_and, Bool.and_true, Bool.or_self, z10, z01, zm0, nz1, nz0, cnt0])
              (refine rb_M_askOf_15 ?_; simp only [bk_M_askOf_15, gr_aloadn, gr_iloadn, gr_invokevirtual, NI_8, ps_0, ps_s, pu_n, pu_s, ct_0, ct_i, ct_l, ct_r, gr_istoren, st1, clr_0, clr_s, sk_0, sk_s, gr_getfield, fm_8_8, gr_iconst, gr_imul, gr_iaload, gr_istore, gr_iload, gr_bipush, gr_ificmp_ge, fm_8_25, gr_iastore, gr_iinc, gr_goto, gr_invokestatic, gr_ifCond_eq, fm_8_22, gr_sipush, gr_iadd, gr_dup2, pA_i, pA_r, gr_ificmp_eq, gr_ireturn, NI_37, ia_37, ln_37, al_37, NI_45, ia_45, ln_45, al_45, NI_47, ia_47, ln_47, al_47, gr_nil, pI_c, pR_c, oI_c, oR_c, lg_i, lg_l, lg_r, lg_n, kI_p, kI_m, lk_0, lk_s, ar_n, ar_c, if_true, if_false, List.replicate, Nat.reduceAdd, Nat.reduceSub, Nat.reduceLeDiff, Nat.reduceEqDiff, Nat.reduceLT, reduceIte, true_and, and_true, true_implies, false_implies, implies_true, eq_self, not_true_eq_false, not_false_eq_true, Bool.false_eq_true, reduceCtorEq, forall_const, List.headD_cons, Nat.zero_add, true_or, or_true, ne_eq, false_and, and_false, false_or, or_false, Nat.reduceBEq, Bool.false_and, Bool.and_false, Bool.or_false, Bool.false_or, Bool.and_self, Bool.true_and, Bool.and_true, Bool.or_self, z10, z01, zm0, nz1, nz0, cnt0])
              (refine rb_M_askOf_16 ?_; simp only [bk_M_askOf_16, gr_aloadn, gr_iloadn, gr_invokevirtual, NI_8, ps_0, ps_s, pu_n, pu_s, ct_0, ct_i, ct_l, ct_r, gr_istoren, st1, clr_0, clr_s, sk_0, sk_s, gr_getfield, fm_8_8, gr_iconst, gr_imul, gr_iaload, gr_istore, gr_iload, gr_bipush, gr_ificmp_ge, fm_8_25, gr_iastore, gr_iinc, gr_goto, gr_invokestatic, gr_ifCond_eq, fm_8_22, gr_sipush, gr_iadd, gr_dup2, pA_i, pA_r, gr_ificmp_eq, gr_ireturn, NI_37, ia_37, ln_37, al_37, NI_45, ia_45, ln_45, al_45, NI_47, ia_47, ln_47, al_47, gr_nil, pI_c, pR_c, oI_c, oR_c, lg_i, lg_l, lg_r, lg_n, kI_p, kI_m, lk_0, lk_s, ar_n, ar_c, if_true, if_false, List.replicate, Nat.reduceAdd, Nat.reduceSub, Nat.reduceLeDiff, Nat.reduceEqDiff, Nat.reduceLT, reduceIte, true_and, and_true, true_implies, false_implies, implies_true, eq_self, not_true_eq_false, not_false_eq_true, Bool.false_eq_true, reduceCtorEq, forall_const, List.headD_cons, Nat.zero_add, true_or, or_true, ne_eq, false_and, and_false, false_or, or_false, Nat.reduceBEq, Bool.false_and, Bool.and_false, Bool.or_false, Bool.false_or, Bool.and_self, Bool.true_and, Bool.and_true, Bool.or_self, z10, z01, zm0, nz1, nz0, cnt0])
              rw [nI_add]
              refine ih' _ _ _ _ (Or.inr ⟨by omega, ?_⟩) ht hm hkk
              rw [if_pos z]
              exact ⟨ex, el, e1, e2⟩
            · refine J10 (fun q => z ?_)
              rw [el]
              exact nI_le q (by omega)
        | succ n ih2 =>
          intro j hj9
          have e1 := ht (9 * c + j) (by omega)
          have gl := grM_le t20 c j
          have gl2 : rv (talN A k 20) (9 * c + j) ≤ 20 := t20 _
          have ih2' := ih2 (j + 1) (by omega)
          simp only [grM] at ih2'
          (refine rb_M_askOf_8 ?_; simp only [bk_M_askOf_8, gr_aloadn, gr_iloadn, gr_invokevirtual, NI_8, ps_0, ps_s, pu_n, pu_s, ct_0, ct_i, ct_l, ct_r, gr_istoren, st1, clr_0, clr_s, sk_0, sk_s, gr_getfield, fm_8_8, gr_iconst, gr_imul, gr_iaload, gr_istore, gr_iload, gr_bipush, gr_ificmp_ge, fm_8_25, gr_iastore, gr_iinc, gr_goto, gr_invokestatic, gr_ifCond_eq, fm_8_22, gr_sipush, gr_iadd, gr_dup2, pA_i, pA_r, gr_ificmp_eq, gr_ireturn, NI_37, ia_37, ln_37, al_37, NI_45, ia_45, ln_45, al_45, NI_47, ia_47, ln_47, al_47, gr_nil, pI_c, pR_c, oI_c, oR_c, lg_i, lg_l, lg_r, lg_n, kI_p, kI_m, lk_0, lk_s, ar_n, ar_c, if_true, if_false, List.replicate, Nat.reduceAdd, Nat.reduceSub, Nat.reduceLeDiff, Nat.reduceEqDiff, Nat.reduceLT, reduceIte, true_and, and_true, true_implies, false_implies, implies_true, eq_self, not_true_eq_false, not_false_eq_true, Bool.false_eq_true, reduceCtorEq, forall_const, List.headD_cons, Nat.zero_add, true_or, or_true, ne_eq, false_and, and_false, false_or, or_false, Nat.reduceBEq, Bool.false_and, Bool.and_false, Bool.or_false, Bool.false_or, Bool.and_self, Bool.true_and, Bool.and_true, Bool.or_self, z10, z01, zm0, nz1, nz0, cnt0])
          refine ⟨fun h => absurd h (nI_ge (by omega) (by omega)), fun _ => ?_⟩
          simp (disch := omega) only [nI_leI, nI_ltI, nI_eq, nI_add, pk_mul, nI_clamp, vp_nI, nI_lt0, nI_ge0, nI_eq0, nI_gt0, nI_le0, nI_neg1, neg1_nI, Nat.not_le, Nat.not_lt, if_true, if_false, true_and, and_true, true_implies, false_implies, implies_true, not_true_eq_false, not_false_eq_true, reduceIte, false_or, or_false, false_and, and_false, true_or, or_true, e1]
          refine ⟨by omega, ?_⟩
          refine c_M_greater ?_
          rw [nI_mx (by omega) (by omega)]
          simp only [gr_aloadn, gr_iloadn, gr_invokevirtual, NI_8, ps_0, ps_s, pu_n, pu_s, ct_0, ct_i, ct_l, ct_r, gr_istoren, st1, clr_0, clr_s, sk_0, sk_s, gr_getfield, fm_8_8, gr_iconst, gr_imul, gr_iaload, gr_istore, gr_iload, gr_bipush, gr_ificmp_ge, fm_8_25, gr_iastore, gr_iinc, gr_goto, gr_invokestatic, gr_ifCond_eq, fm_8_22, gr_sipush, gr_iadd, gr_dup2, pA_i, pA_r, gr_ificmp_eq, gr_ireturn, NI_37, ia_37, ln_37, al_37, NI_45, ia_45, ln_45, al_45, NI_47, ia_47, ln_47, al_47, gr_nil, pI_c, pR_c, oI_c, oR_c, lg_i, lg_l, lg_r, lg_n, kI_p, kI_m, lk_0, lk_s, ar_n, ar_c, if_true, if_false, List.replicate, Nat.reduceAdd, Nat.reduceSub, Nat.reduceLeDiff, Nat.reduceEqDiff, Nat.reduceLT, reduceIte, true_and, and_true, true_implies, false_implies, implies_true, eq_self, not_true_eq_false, not_false_eq_true, Bool.false_eq_true, reduceCtorEq, forall_const, List.headD_cons, Nat.zero_add, true_or, or_true, ne_eq, false_and, and_false, false_or, or_false, Nat.reduceBEq, Bool.false_and, Bool.and_false, Bool.or_false, Bool.false_or, Bool.and_self, Bool.true_and, Bool.and_true, Bool.or_self, z10, z01, zm0, nz1, nz0, cnt0]
          exact ih2'
      (refine rb_M_askOf_7 ?_; simp only [bk_M_askOf_7, gr_aloadn, gr_iloadn, gr_invokevirtual, NI_8, ps_0, ps_s, pu_n, pu_s, ct_0, ct_i, ct_l, ct_r, gr_istoren, st1, clr_0, clr_s, sk_0, sk_s, gr_getfield, fm_8_8, gr_iconst, gr_imul, gr_iaload, gr_istore, gr_iload, gr_bipush, gr_ificmp_ge, fm_8_25, gr_iastore, gr_iinc, gr_goto, gr_invokestatic, gr_ifCond_eq, fm_8_22, gr_sipush, gr_iadd, gr_dup2, pA_i, pA_r, gr_ificmp_eq, gr_ireturn, NI_37, ia_37, ln_37, al_37, NI_45, ia_45, ln_45, al_45, NI_47, ia_47, ln_47, al_47, gr_nil, pI_c, pR_c, oI_c, oR_c, lg_i, lg_l, lg_r, lg_n, kI_p, kI_m, lk_0, lk_s, ar_n, ar_c, if_true, if_false, List.replicate, Nat.reduceAdd, Nat.reduceSub, Nat.reduceLeDiff, Nat.reduceEqDiff, Nat.reduceLT, reduceIte, true_and, and_true, true_implies, false_implies, implies_true, eq_self, not_true_eq_false, not_false_eq_true, Bool.false_eq_true, reduceCtorEq, forall_const, List.headD_cons, Nat.zero_add, true_or, or_true, ne_eq, false_and, and_false, false_or, or_false, Nat.reduceBEq, Bool.false_and, Bool.and_false, Bool.or_false, Bool.false_or, Bool.and_self, Bool.true_and, Bool.and_true, Bool.or_self, z10, z01, zm0, nz1, nz0, cnt0])
      refine ⟨fun h => absurd h (nI_ge (by omega) (by omega)), fun _ => ?_⟩
      exact inner 9 0 (by omega)
  -- the days
  have days : ∀ (n a : Nat) (m : Mem) (y5 y6 y7 y8 : Option MV), a + n = 20 → TLM m (talN A k a) → Sm (FAk k) u1 m → RunB (d + 6) Y_M_askOf 3 [some (.inr (.inr (8, 0))), some (.inl (nI k)), some (.inl some20), some (.inl (nI (A.P k 0))), some (.inl (nI a)), y5, y6, y7, y8] [] m Q := by
    intro n
    induction n with
    | zero =>
      intro a m y5 y6 y7 y8 ha ht hs
      rw [show a = 20 by omega] at ht ⊢
      (refine rb_M_askOf_3 ?_; simp only [bk_M_askOf_3, gr_aloadn, gr_iloadn, gr_invokevirtual, NI_8, ps_0, ps_s, pu_n, pu_s, ct_0, ct_i, ct_l, ct_r, gr_istoren, st1, clr_0, clr_s, sk_0, sk_s, gr_getfield, fm_8_8, gr_iconst, gr_imul, gr_iaload, gr_istore, gr_iload, gr_bipush, gr_ificmp_ge, fm_8_25, gr_iastore, gr_iinc, gr_goto, gr_invokestatic, gr_ifCond_eq, fm_8_22, gr_sipush, gr_iadd, gr_dup2, pA_i, pA_r, gr_ificmp_eq, gr_ireturn, NI_37, ia_37, ln_37, al_37, NI_45, ia_45, ln_45, al_45, NI_47, ia_47, ln_47, al_47, gr_nil, pI_c, pR_c, oI_c, oR_c, lg_i, lg_l, lg_r, lg_n, kI_p, kI_m, lk_0, lk_s, ar_n, ar_c, if_true, if_false, List.replicate, Nat.reduceAdd, Nat.reduceSub, Nat.reduceLeDiff, Nat.reduceEqDiff, Nat.reduceLT, reduceIte, true_and, and_true, true_implies, false_implies, implies_true, eq_self, not_true_eq_false, not_false_eq_true, Bool.false_eq_true, reduceCtorEq, forall_const, List.headD_cons, Nat.zero_add, true_or, or_true, ne_eq, false_and, and_false, false_or, or_false, Nat.reduceBEq, Bool.false_and, Bool.and_false, Bool.or_false, Bool.false_or, Bool.and_self, Bool.true_and, Bool.and_true, Bool.or_self, z10, z01, zm0, nz1, nz0, cnt0])
      refine ⟨fun _ => ?_, fun h => absurd (by decide) h⟩
      (refine rb_M_askOf_6 ?_; simp only [bk_M_askOf_6, gr_aloadn, gr_iloadn, gr_invokevirtual, NI_8, ps_0, ps_s, pu_n, pu_s, ct_0, ct_i, ct_l, ct_r, gr_istoren, st1, clr_0, clr_s, sk_0, sk_s, gr_getfield, fm_8_8, gr_iconst, gr_imul, gr_iaload, gr_istore, gr_iload, gr_bipush, gr_ificmp_ge, fm_8_25, gr_iastore, gr_iinc, gr_goto, gr_invokestatic, gr_ifCond_eq, fm_8_22, gr_sipush, gr_iadd, gr_dup2, pA_i, pA_r, gr_ificmp_eq, gr_ireturn, NI_37, ia_37, ln_37, al_37, NI_45, ia_45, ln_45, al_45, NI_47, ia_47, ln_47, al_47, gr_nil, pI_c, pR_c, oI_c, oR_c, lg_i, lg_l, lg_r, lg_n, kI_p, kI_m, lk_0, lk_s, ar_n, ar_c, if_true, if_false, List.replicate, Nat.reduceAdd, Nat.reduceSub, Nat.reduceLeDiff, Nat.reduceEqDiff, Nat.reduceLT, reduceIte, true_and, and_true, true_implies, false_implies, implies_true, eq_self, not_true_eq_false, not_false_eq_true, Bool.false_eq_true, reduceCtorEq, forall_const, List.headD_cons, Nat.zero_add, true_or, or_true, ne_eq, false_and, and_false, false_or, or_false, Nat.reduceBEq, Bool.false_and, Bool.and_false, Bool.or_false, Bool.false_or, Bool.and_self, Bool.true_and, Bool.and_true, Bool.or_self, z10, z01, zm0, nz1, nz0, cnt0])
      simp (disch := omega) only [nI_leI, nI_ltI, nI_eq, nI_add, pk_mul, nI_clamp, vp_nI, nI_lt0, nI_ge0, nI_eq0, nI_gt0, nI_le0, nI_neg1, neg1_nI, Nat.not_le, Nat.not_lt, if_true, if_false, true_and, and_true, true_implies, false_implies, implies_true, not_true_eq_false, not_false_eq_true, reduceIte, false_or, or_false, false_and, and_false, true_or, or_true]
      refine ⟨by omega, ?_⟩
      refine last 6 0 _ _ _ _ _ (by omega) (Or.inl ⟨rfl, rfl, rfl⟩) (fun j hj => by rw [rd_wr, if_neg (by omega)]; exact ht j hj) (h1.keep fun c j hkf => ?_) (hk1.tr (fun c i j hc => ?_))
      · rw [rd_wr]
        split
        · next e => rw [e.1, e.2.2]; exact b0.symm
        · next e => exact hs.1 _ _ _ (fun z => by have := fun q => flm_krf c 0 j q hkf; simp only [KRF, KR] at hkf; omega)
      · rw [rd_wr, if_neg (by omega)]; exact hs.1 _ _ _ (by omega)
    | succ n ih =>
      intro a m y5 y6 y7 y8 ha ht hs
      have ih' := fun m y5 => ih (a + 1) m y5 y6 y7 y8 (by omega)
      simp only [talN] at ih'
      have J5 : ∀ (m : Mem) (y5 : Option MV), TLM m (if yearP A k a = true then addRow (talN A k a) (fun c => fct (setP A k 0 a) A.R 19 c 0) 6 else talN A k a) → Sm (FAk k) u1 m → RunB (d + 6) Y_M_askOf 5 [some (.inr (.inr (8, 0))), some (.inl (nI k)), some (.inl some20), some (.inl (nI (A.P k 0))), some (.inl (nI a)), y5, y6, y7, y8] [] m Q := by
        intro m y5 ht hs
        (refine rb_M_askOf_5 ?_; simp only [bk_M_askOf_5, gr_aloadn, gr_iloadn, gr_invokevirtual, NI_8, ps_0, ps_s, pu_n, pu_s, ct_0, ct_i, ct_l, ct_r, gr_istoren, st1, clr_0, clr_s, sk_0, sk_s, gr_getfield, fm_8_8, gr_iconst, gr_imul, gr_iaload, gr_istore, gr_iload, gr_bipush, gr_ificmp_ge, fm_8_25, gr_iastore, gr_iinc, gr_goto, gr_invokestatic, gr_ifCond_eq, fm_8_22, gr_sipush, gr_iadd, gr_dup2, pA_i, pA_r, gr_ificmp_eq, gr_ireturn, NI_37, ia_37, ln_37, al_37, NI_45, ia_45, ln_45, al_45, NI_47, ia_47, ln_47, al_47, gr_nil, pI_c, pR_c, oI_c, oR_c, lg_i, lg_l, lg_r, lg_n, kI_p, kI_m, lk_0, lk_s, ar_n, ar_c, if_true, if_false, List.replicate, Nat.reduceAdd, Nat.reduceSub, Nat.reduceLeDiff, Nat.reduceEqDiff, Nat.reduceLT, reduceIte, true_and, and_true, true_implies, false_implies, implies_true, eq_self, not_true_eq_false, not_false_eq_true, Bool.false_eq_true, reduceCtorEq, forall_const, List.headD_cons, Nat.zero_add, true_or, or_true, ne_eq, false_and, and_false, false_or, or_false, Nat.reduceBEq, Bool.false_and, Bool.and_false, Bool.or_false, Bool.false_or, Bool.and_self, Bool.true_and, Bool.and_true, Bool.or_self, z10, z01, zm0, nz1, nz0, cnt0])
        rw [nI_add]
        exact ih' m y5 ht hs
      have ibit := isB_bits (yearP A k) (n := 20) (k := a) (by omega) (by omega)
      rw [hsome] at ibit
      (refine rb_M_askOf_3 ?_; simp only [bk_M_askOf_3, gr_aloadn, gr_iloadn, gr_invokevirtual, NI_8, ps_0, ps_s, pu_n, pu_s, ct_0, ct_i, ct_l, ct_r, gr_istoren, st1, clr_0, clr_s, sk_0, sk_s, gr_getfield, fm_8_8, gr_iconst, gr_imul, gr_iaload, gr_istore, gr_iload, gr_bipush, gr_ificmp_ge, fm_8_25, gr_iastore, gr_iinc, gr_goto, gr_invokestatic, gr_ifCond_eq, fm_8_22, gr_sipush, gr_iadd, gr_dup2, pA_i, pA_r, gr_ificmp_eq, gr_ireturn, NI_37, ia_37, ln_37, al_37, NI_45, ia_45, ln_45, al_45, NI_47, ia_47, ln_47, al_47, gr_nil, pI_c, pR_c, oI_c, oR_c, lg_i, lg_l, lg_r, lg_n, kI_p, kI_m, lk_0, lk_s, ar_n, ar_c, if_true, if_false, List.replicate, Nat.reduceAdd, Nat.reduceSub, Nat.reduceLeDiff, Nat.reduceEqDiff, Nat.reduceLT, reduceIte, true_and, and_true, true_implies, false_implies, implies_true, eq_self, not_true_eq_false, not_false_eq_true, Bool.false_eq_true, reduceCtorEq, forall_const, List.headD_cons, Nat.zero_add, true_or, or_true, ne_eq, false_and, and_false, false_or, or_false, Nat.reduceBEq, Bool.false_and, Bool.and_false, Bool.or_false, Bool.false_or, Bool.and_self, Bool.true_and, Bool.and_true, Bool.or_self, z10, z01, zm0, nz1, nz0, cnt0])
      refine ⟨fun h => absurd h (nI_ge (by omega) (by omega)), fun _ => ?_⟩
      refine c_M_isIn (fun g => ?_) (fun g => ?_)
      · rw [if_pos (ibit.mp g)] at J5
        simp only [gr_aloadn, gr_iloadn, gr_invokevirtual, NI_8, ps_0, ps_s, pu_n, pu_s, ct_0, ct_i, ct_l, ct_r, gr_istoren, st1, clr_0, clr_s, sk_0, sk_s, gr_getfield, fm_8_8, gr_iconst, gr_imul, gr_iaload, gr_istore, gr_iload, gr_bipush, gr_ificmp_ge, fm_8_25, gr_iastore, gr_iinc, gr_goto, gr_invokestatic, gr_ifCond_eq, fm_8_22, gr_sipush, gr_iadd, gr_dup2, pA_i, pA_r, gr_ificmp_eq, gr_ireturn, NI_37, ia_37, ln_37, al_37, NI_45, ia_45, ln_45, al_45, NI_47, ia_47, ln_47, al_47, gr_nil, pI_c, pR_c, oI_c, oR_c, lg_i, lg_l, lg_r, lg_n, kI_p, kI_m, lk_0, lk_s, ar_n, ar_c, if_true, if_false, List.replicate, Nat.reduceAdd, Nat.reduceSub, Nat.reduceLeDiff, Nat.reduceEqDiff, Nat.reduceLT, reduceIte, true_and, and_true, true_implies, false_implies, implies_true, eq_self, not_true_eq_false, not_false_eq_true, Bool.false_eq_true, reduceCtorEq, forall_const, List.headD_cons, Nat.zero_add, true_or, or_true, ne_eq, false_and, and_false, false_or, or_false, Nat.reduceBEq, Bool.false_and, Bool.and_false, Bool.or_false, Bool.false_or, Bool.and_self, Bool.true_and, Bool.and_true, Bool.or_self, z10, z01, zm0, nz1, nz0, cnt0]
        simp (disch := omega) only [nI_leI, nI_ltI, nI_eq, nI_add, pk_mul, nI_clamp, vp_nI, nI_lt0, nI_ge0, nI_eq0, nI_gt0, nI_le0, nI_neg1, neg1_nI, Nat.not_le, Nat.not_lt, if_true, if_false, true_and, and_true, true_implies, false_implies, implies_true, not_true_eq_false, not_false_eq_true, reduceIte, false_or, or_false, false_and, and_false, true_or, or_true]
        refine ⟨by omega, ?_⟩
        have hs1 : Sm (FAk k) u1 (wr m 37 0 (5 * k) (nI a)) := hs.wr _ (by omega)
        have kk : ∀ c j, KR c j ∨ c = 38 ∨ c = 39 ∨ c = 40 ∨ (c = 8 ∧ j = 7) → rd (wr m 37 0 (5 * k) (nI a)) c 0 j = rd u1 c 0 j := fun c j hk => hs1.1 _ _ _ (by simp only [KR] at hk; omega)
        have hB : BlM (wr m 37 0 (5 * k) (nI a)) A.n (upP A.P k 0 a) := by
          refine ⟨PV_up pv (by omega) (by omega), by rw [kk _ _ (by simp)]; exact h1.2.1.2.1, fun k' hk' => ⟨fun f' hf' => ?_, fun j hj => ?_⟩⟩
          · by_cases e : k' = k ∧ f' = 0
            · rw [e.1, e.2, rd_wr, if_pos (by omega)]; simp [upP]
            · rw [hs1.1 _ _ _ (by omega), (h1.2.1.2.2 k' hk').1 f' hf']
              simp only [upP]; rw [if_neg e]
          · have e4 : upP A.P k 0 a k' 4 = A.P k' 4 := by simp only [upP]; rw [if_neg (by omega)]
            have e5 : upP A.P k 0 a k' (5 + j) = A.P k' (5 + j) := by simp only [upP]; rw [if_neg (by omega)]
            rw [e4] at hj
            rw [e5, hs1.1 _ _ _ (by omega)]
            exact (h1.2.1.2.2 k' hk').2 j hj
        have hm1 : MIn A (wr m 37 0 (5 * k) (nI a)) := h1.1.keep fun c j hk => kk c j (Or.inl hk)
        refine c_M_lives (S := setP A k 0 a) (R := A.R) (TO_A hm1.2.1 _ rfl rfl rfl rfl) hB (fun b hb => by rw [kk _ _ (by simp)]; exact h1.rain b hb) (fun m2 hk2 hs2 => ?_)
        have hs3 : Sm (FAk k) u1 m2 := hs1.tr (hs2.wk fun c i j z => Or.inl (Or.inl z))
        simp only [gr_aloadn, gr_iloadn, gr_invokevirtual, NI_8, ps_0, ps_s, pu_n, pu_s, ct_0, ct_i, ct_l, ct_r, gr_istoren, st1, clr_0, clr_s, sk_0, sk_s, gr_getfield, fm_8_8, gr_iconst, gr_imul, gr_iaload, gr_istore, gr_iload, gr_bipush, gr_ificmp_ge, fm_8_25, gr_iastore, gr_iinc, gr_goto, gr_invokestatic, gr_ifCond_eq, fm_8_22, gr_sipush, gr_iadd, gr_dup2, pA_i, pA_r, gr_ificmp_eq, gr_ireturn, NI_37, ia_37, ln_37, al_37, NI_45, ia_45, ln_45, al_45, NI_47, ia_47, ln_47, al_47, gr_nil, pI_c, pR_c, oI_c, oR_c, lg_i, lg_l, lg_r, lg_n, kI_p, kI_m, lk_0, lk_s, ar_n, ar_c, if_true, if_false, List.replicate, Nat.reduceAdd, Nat.reduceSub, Nat.reduceLeDiff, Nat.reduceEqDiff, Nat.reduceLT, reduceIte, true_and, and_true, true_implies, false_implies, implies_true, eq_self, not_true_eq_false, not_false_eq_true, Bool.false_eq_true, reduceCtorEq, forall_const, List.headD_cons, Nat.zero_add, true_or, or_true, ne_eq, false_and, and_false, false_or, or_false, Nat.reduceBEq, Bool.false_and, Bool.and_false, Bool.or_false, Bool.false_or, Bool.and_self, Bool.true_and, Bool.and_true, Bool.or_self, z10, z01, zm0, nz1, nz0, cnt0]
        have cols : ∀ (n c : Nat) (m3 : Mem), c + n = 6 → TLM m3 (addRow (talN A k a) (fun c => fct (setP A k 0 a) A.R 19 c 0) c) → Sm (fun f _ _ => f = 47) m2 m3 → RunB (d + 6) Y_M_askOf 4 [some (.inr (.inr (8, 0))), some (.inl (nI k)), some (.inl some20), some (.inl (nI (A.P k 0))), some (.inl (nI a)), some (.inl (nI c)), y6, y7, y8] [] m3 Q := by
          intro n
          induction n with
          | zero =>
            intro c m3 hc ht3 hs4
            rw [show c = 6 by omega] at ht3 ⊢
            (refine rb_M_askOf_4 ?_; simp only [bk_M_askOf_4, gr_aloadn, gr_iloadn, gr_invokevirtual, NI_8, ps_0, ps_s, pu_n, pu_s, ct_0, ct_i, ct_l, ct_r, gr_istoren, st1, clr_0, clr_s, sk_0, sk_s, gr_getfield, fm_8_8, gr_iconst, gr_imul, gr_iaload, gr_istore, gr_iload, gr_bipush, gr_ificmp_ge, fm_8_25, gr_iastore, gr_iinc, gr_goto, gr_invokestatic, gr_ifCond_eq, fm_8_22, gr_sipush, gr_iadd, gr_dup2, pA_i, pA_r, gr_ificmp_eq, gr_ireturn, NI_37, ia_37, ln_37, al_37, NI_45, ia_45, ln_45, al_45, NI_47, ia_47, ln_47, al_47, gr_nil, pI_c, pR_c, oI_c, oR_c, lg_i, lg_l, lg_r, lg_n, kI_p, kI_m, lk_0, lk_s, ar_n, ar_c, if_true, if_false, List.replicate, Nat.reduceAdd, Nat.reduceSub, Nat.reduceLeDiff, Nat.reduceEqDiff, Nat.reduceLT, reduceIte, true_and, and_true, true_implies, false_implies, implies_true, eq_self, not_true_eq_false, not_false_eq_true, Bool.false_eq_true, reduceCtorEq, forall_const, List.headD_cons, Nat.zero_add, true_or, or_true, ne_eq, false_and, and_false, false_or, or_false, Nat.reduceBEq, Bool.false_and, Bool.and_false, Bool.or_false, Bool.false_or, Bool.and_self, Bool.true_and, Bool.and_true, Bool.or_self, z10, z01, zm0, nz1, nz0, cnt0])
            refine ⟨fun _ => ?_, fun h => absurd (by decide) h⟩
            exact J5 m3 _ ht3 (hs3.tr (hs4.wk fun c i j z => Or.inr z))
          | succ n ihc =>
            intro c m3 hc ht3 hs4
            have ihc' := fun m3 => ihc (c + 1) m3 (by omega)
            simp only [addRow] at ihc'
            have kx : rd m3 45 0 (684 + 6 * c) = fct (setP A k 0 a) A.R 19 c 0 := by
              rw [hs4.1 _ _ _ (by omega)]
              exact hk2 19 (by omega) c (by omega) 0 (by omega)
            have hlt := fct_let (S := setP A k 0 a) (R := A.R) (a := 19) (c := c) hB.1 (by omega)
            have hbt : ∀ j, addRow (talN A k a) (fun c => fct (setP A k 0 a) A.R 19 c 0) c j ≤ 20 := fun j => by
              have := (addRow_1 (talN A k a) (fun c => fct (setP A k 0 a) A.R 19 c 0) c j).1
              have := talN_20 A k a j
              omega
            generalize fct (setP A k 0 a) A.R 19 c 0 = x at *
            generalize addRow (talN A k a) (fun c => fct (setP A k 0 a) A.R 19 c 0) c = t at *
            (refine rb_M_askOf_4 ?_; simp only [bk_M_askOf_4, gr_aloadn, gr_iloadn, gr_invokevirtual, NI_8, ps_0, ps_s, pu_n, pu_s, ct_0, ct_i, ct_l, ct_r, gr_istoren, st1, clr_0, clr_s, sk_0, sk_s, gr_getfield, fm_8_8, gr_iconst, gr_imul, gr_iaload, gr_istore, gr_iload, gr_bipush, gr_ificmp_ge, fm_8_25, gr_iastore, gr_iinc, gr_goto, gr_invokestatic, gr_ifCond_eq, fm_8_22, gr_sipush, gr_iadd, gr_dup2, pA_i, pA_r, gr_ificmp_eq, gr_ireturn, NI_37, ia_37, ln_37, al_37, NI_45, ia_45, ln_45, al_45, NI_47, ia_47, ln_47, al_47, gr_nil, pI_c, pR_c, oI_c, oR_c, lg_i, lg_l, lg_r, lg_n, kI_p, kI_m, lk_0, lk_s, ar_n, ar_c, if_true, if_false, List.replicate, Nat.reduceAdd, Nat.reduceSub, Nat.reduceLeDiff, Nat.reduceEqDiff, Nat.reduceLT, reduceIte, true_and, and_true, true_implies, false_implies, implies_true, eq_self, not_true_eq_false, not_false_eq_true, Bool.false_eq_true, reduceCtorEq, forall_const, List.headD_cons, Nat.zero_add, true_or, or_true, ne_eq, false_and, and_false, false_or, or_false, Nat.reduceBEq, Bool.false_and, Bool.and_false, Bool.or_false, Bool.false_or, Bool.and_self, Bool.true_and, Bool.and_true, Bool.or_self, z10, z01, zm0, nz1, nz0, cnt0])
            refine ⟨fun h => absurd h (nI_ge (by omega) (by omega)), fun _ => ?_⟩
            simp (disch := omega) only [nI_leI, nI_ltI, nI_eq, nI_add, pk_mul, nI_clamp, vp_nI, nI_lt0, nI_ge0, nI_eq0, nI_gt0, nI_le0, nI_neg1, neg1_nI, Nat.not_le, Nat.not_lt, if_true, if_false, true_and, and_true, true_implies, false_implies, implies_true, not_true_eq_false, not_false_eq_true, reduceIte, false_or, or_false, false_and, and_false, true_or, or_true, kx]
            refine ⟨by omega, ?_⟩
            have key : ∀ i, i < 9 → nI (9 * c) + x + nI 1 = nI (9 * c + i) → rv t (9 * c + i) = t (c * 9 + like x) → (∀ j, rv (upN t (c * 9 + like x) (t (c * 9 + like x) + 1)) j = if j = 9 * c + i then rv t (9 * c + i) + 1 else rv t j) → vp_in (nI (9 * c) + x + nI 1) 54 ∧ vp_in (nI (9 * c) + x + nI 1) 54 ∧ RunB (d + 6) Y_M_askOf 4 [some (.inr (.inr (8, 0))), some (.inl (nI k)), some (.inl some20), some (.inl (nI (A.P k 0))), some (.inl (nI a)), some (.inl (nI (c + 1))), y6, y7, y8] [] (wr m3 47 0 (nI (9 * c) + x + nI 1).toNatClampNeg (rd m3 47 0 (nI (9 * c) + x + nI 1).toNatClampNeg + nI 1)) Q := by
              intro i hi e1 e2 e3
              rw [e1, nI_clamp (by omega), vp_nI (by omega)]
              refine ⟨by omega, by omega, ?_⟩
              rw [ht3 _ (by omega), nI_add]
              refine ihc' _ (fun j hj => ?_) (hs4.wr _ rfl)
              rw [e3, rd_wr]
              by_cases ej : j = 9 * c + i
              · rw [if_pos (by omega), if_pos ej]
              · rw [if_neg (by omega), if_neg ej]; exact ht3 j hj
            rcases hlt with rfl | ⟨l, hl, rfl⟩
            · have e8 : like (-nI 1) = 8 := by decide
              refine key 0 (by omega) ?_ ?_ (fun j => ?_)
              · rw [Nat.add_zero, Int32.add_assoc, show (-nI 1 + nI 1) = nI 0 by decide, nI_add]; rfl
              · rw [e8, Nat.add_zero, rv_0]
              · rw [e8]
                unfold rv upN
                by_cases ej : j = 9 * c + 0
                · rw [if_pos ej, if_pos (by split <;> omega)]
                  exact congrArg (· + 1) (congrArg t (by split <;> omega))
                · rw [if_neg ej, if_neg (by split <;> omega)]
            · have e8 : like (nI l) = l := by
                unfold like; rw [if_pos (inB_n hl (by omega)), ix_n (by omega)]
              refine key (l + 1) (by omega) ?_ ?_ (fun j => ?_)
              · rw [nI_add, nI_add]; rfl
              · rw [e8, rv_s t c l hl]
              · rw [e8]
                unfold rv upN
                by_cases ej : j = 9 * c + (l + 1)
                · rw [if_pos ej, if_pos (by split <;> omega)]
                  exact congrArg (· + 1) (congrArg t (by split <;> omega))
                · rw [if_neg ej, if_neg (by split <;> omega)]
        refine cols 6 0 m2 (by omega) (fun j hj => ?_) Sm.rf
        rw [hs2.1 _ _ _ (by omega), rd_wr, if_neg (by omega)]
        exact ht j hj
      · rw [if_neg (fun z => g (ibit.mpr z))] at J5
        simp only [gr_aloadn, gr_iloadn, gr_invokevirtual, NI_8, ps_0, ps_s, pu_n, pu_s, ct_0, ct_i, ct_l, ct_r, gr_istoren, st1, clr_0, clr_s, sk_0, sk_s, gr_getfield, fm_8_8, gr_iconst, gr_imul, gr_iaload, gr_istore, gr_iload, gr_bipush, gr_ificmp_ge, fm_8_25, gr_iastore, gr_iinc, gr_goto, gr_invokestatic, gr_ifCond_eq, fm_8_22, gr_sipush, gr_iadd, gr_dup2, pA_i, pA_r, gr_ificmp_eq, gr_ireturn, NI_37, ia_37, ln_37, al_37, NI_45, ia_45, ln_45, al_45, NI_47, ia_47, ln_47, al_47, gr_nil, pI_c, pR_c, oI_c, oR_c, lg_i, lg_l, lg_r, lg_n, kI_p, kI_m, lk_0, lk_s, ar_n, ar_c, if_true, if_false, List.replicate, Nat.reduceAdd, Nat.reduceSub, Nat.reduceLeDiff, Nat.reduceEqDiff, Nat.reduceLT, reduceIte, true_and, and_true, true_implies, false_implies, implies_true, eq_self, not_true_eq_false, not_false_eq_true, Bool.false_eq_true, reduceCtorEq, forall_const, List.headD_cons, Nat.zero_add, true_or, or_true, ne_eq, false_and, and_false, false_or, or_false, Nat.reduceBEq, Bool.false_and, Bool.and_false, Bool.or_false, Bool.false_or, Bool.and_self, Bool.true_and, Bool.and_true, Bool.or_self, z10, z01, zm0, nz1, nz0, cnt0]
        exact J5 m _ ht hs
  -- the tally is cleared
  have zero : ∀ (n i : Nat) (m : Mem) (y5 y6 y7 y8 : Option MV), i + n = 54 → (∀ j, j < i → rd m 47 0 j = nI 0) → Sm (FAk k) u1 m → RunB (d + 6) Y_M_askOf 1 [some (.inr (.inr (8, 0))), some (.inl (nI k)), some (.inl some20), some (.inl (nI (A.P k 0))), some (.inl (nI i)), y5, y6, y7, y8] [] m Q := by
    intro n
    induction n with
    | zero =>
      intro i m y5 y6 y7 y8 hi hz hs
      (refine rb_M_askOf_1 ?_; simp only [bk_M_askOf_1, gr_aloadn, gr_iloadn, gr_invokevirtual, NI_8, ps_0, ps_s, pu_n, pu_s, ct_0, ct_i, ct_l, ct_r, gr_istoren, st1, clr_0, clr_s, sk_0, sk_s, gr_getfield, fm_8_8, gr_iconst, gr_imul, gr_iaload, gr_istore, gr_iload, gr_bipush, gr_ificmp_ge, fm_8_25, gr_iastore, gr_iinc, gr_goto, gr_invokestatic, gr_ifCond_eq, fm_8_22, gr_sipush, gr_iadd, gr_dup2, pA_i, pA_r, gr_ificmp_eq, gr_ireturn, NI_37, ia_37, ln_37, al_37, NI_45, ia_45, ln_45, al_45, NI_47, ia_47, ln_47, al_47, gr_nil, pI_c, pR_c, oI_c, oR_c, lg_i, lg_l, lg_r, lg_n, kI_p, kI_m, lk_0, lk_s, ar_n, ar_c, if_true, if_false, List.replicate, Nat.reduceAdd, Nat.reduceSub, Nat.reduceLeDiff, Nat.reduceEqDiff, Nat.reduceLT, reduceIte, true_and, and_true, true_implies, false_implies, implies_true, eq_self, not_true_eq_false, not_false_eq_true, Bool.false_eq_true, reduceCtorEq, forall_const, List.headD_cons, Nat.zero_add, true_or, or_true, ne_eq, false_and, and_false, false_or, or_false, Nat.reduceBEq, Bool.false_and, Bool.and_false, Bool.or_false, Bool.false_or, Bool.and_self, Bool.true_and, Bool.and_true, Bool.or_self, z10, z01, zm0, nz1, nz0, cnt0])
      refine ⟨fun _ => ?_, fun h => absurd (nI_le (by omega) (by omega)) h⟩
      (refine rb_M_askOf_2 ?_; simp only [bk_M_askOf_2, gr_aloadn, gr_iloadn, gr_invokevirtual, NI_8, ps_0, ps_s, pu_n, pu_s, ct_0, ct_i, ct_l, ct_r, gr_istoren, st1, clr_0, clr_s, sk_0, sk_s, gr_getfield, fm_8_8, gr_iconst, gr_imul, gr_iaload, gr_istore, gr_iload, gr_bipush, gr_ificmp_ge, fm_8_25, gr_iastore, gr_iinc, gr_goto, gr_invokestatic, gr_ifCond_eq, fm_8_22, gr_sipush, gr_iadd, gr_dup2, pA_i, pA_r, gr_ificmp_eq, gr_ireturn, NI_37, ia_37, ln_37, al_37, NI_45, ia_45, ln_45, al_45, NI_47, ia_47, ln_47, al_47, gr_nil, pI_c, pR_c, oI_c, oR_c, lg_i, lg_l, lg_r, lg_n, kI_p, kI_m, lk_0, lk_s, ar_n, ar_c, if_true, if_false, List.replicate, Nat.reduceAdd, Nat.reduceSub, Nat.reduceLeDiff, Nat.reduceEqDiff, Nat.reduceLT, reduceIte, true_and, and_true, true_implies, false_implies, implies_true, eq_self, not_true_eq_false, not_false_eq_true, Bool.false_eq_true, reduceCtorEq, forall_const, List.headD_cons, Nat.zero_add, true_or, or_true, ne_eq, false_and, and_false, false_or, or_false, Nat.reduceBEq, Bool.false_and, Bool.and_false, Bool.or_false, Bool.false_or, Bool.and_self, Bool.true_and, Bool.and_true, Bool.or_self, z10, z01, zm0, nz1, nz0, cnt0])
      exact days 20 0 m _ _ _ _ (by omega) (fun j hj => hz j (by omega)) hs
    | succ n ih =>
      intro i m y5 y6 y7 y8 hi hz hs
      (refine rb_M_askOf_1 ?_; simp only [bk_M_askOf_1, gr_aloadn, gr_iloadn, gr_invokevirtual, NI_8, ps_0, ps_s, pu_n, pu_s, ct_0, ct_i, ct_l, ct_r, gr_istoren, st1, clr_0, clr_s, sk_0, sk_s, gr_getfield, fm_8_8, gr_iconst, gr_imul, gr_iaload, gr_istore, gr_iload, gr_bipush, gr_ificmp_ge, fm_8_25, gr_iastore, gr_iinc, gr_goto, gr_invokestatic, gr_ifCond_eq, fm_8_22, gr_sipush, gr_iadd, gr_dup2, pA_i, pA_r, gr_ificmp_eq, gr_ireturn, NI_37, ia_37, ln_37, al_37, NI_45, ia_45, ln_45, al_45, NI_47, ia_47, ln_47, al_47, gr_nil, pI_c, pR_c, oI_c, oR_c, lg_i, lg_l, lg_r, lg_n, kI_p, kI_m, lk_0, lk_s, ar_n, ar_c, if_true, if_false, List.replicate, Nat.reduceAdd, Nat.reduceSub, Nat.reduceLeDiff, Nat.reduceEqDiff, Nat.reduceLT, reduceIte, true_and, and_true, true_implies, false_implies, implies_true, eq_self, not_true_eq_false, not_false_eq_true, Bool.false_eq_true, reduceCtorEq, forall_const, List.headD_cons, Nat.zero_add, true_or, or_true, ne_eq, false_and, and_false, false_or, or_false, Nat.reduceBEq, Bool.false_and, Bool.and_false, Bool.or_false, Bool.false_or, Bool.and_self, Bool.true_and, Bool.and_true, Bool.or_self, z10, z01, zm0, nz1, nz0, cnt0])
      refine ⟨fun h => absurd h (nI_ge (by omega) (by omega)), fun _ => ?_⟩
      simp (disch := omega) only [nI_leI, nI_ltI, nI_eq, nI_add, pk_mul, nI_clamp, vp_nI, nI_lt0, nI_ge0, nI_eq0, nI_gt0, nI_le0, nI_neg1, neg1_nI, Nat.not_le, Nat.not_lt, if_true, if_false, true_and, and_true, true_implies, false_implies, implies_true, not_true_eq_false, not_false_eq_true, reduceIte, false_or, or_false, false_and, and_false, true_or, or_true]
      refine ⟨by omega, ih (i + 1) _ _ _ _ _ (by omega) (fun j hj => ?_) (hs.wr _ (by omega))⟩
      simp only [rd_wr, true_and]
      split
      · rfl
      · exact hz j (by omega)
  exact zero 54 0 u1 _ _ _ _ (by omega) (fun j hj => by omega) Sm.rf
set_option maxHeartbeats 4000000 in
set_option maxRecDepth 100000 in
theorem c_M_ask {d : Nat} {k : Int32} {A : AS} {u : Mem} {Q : Option MV → Mem → Prop} (h : MIn A u) (hq : ∀ v, MIn A v → KK u v → Q (some (.inl (opAsk A k))) v) : OKm (d + 7) g_M_ask [.inr (.inr (8, 0)), .inl k] u Q := by
  unfold opAsk at hq
  (refine en_M_ask _ (Nat.le_of_ble_eq_true rfl) (rb_M_ask_0 ?_); simp only [bk_M_ask_0, gr_aloadn, gr_invokevirtual, NI_8, ps_0, ps_s, pu_n, pu_s, ct_0, ct_i, ct_l, ct_r, gr_iloadn, gr_ifCond_eq, gr_goto, gr_bipush, gr_ireturn, gr_nil, pI_c, pR_c, oI_c, oR_c, lg_i, lg_l, lg_r, lg_n, kI_p, kI_m, lk_0, lk_s, ar_n, ar_c, if_true, if_false, List.replicate, Nat.reduceAdd, Nat.reduceSub, Nat.reduceLeDiff, Nat.reduceEqDiff, Nat.reduceLT, reduceIte, true_and, and_true, true_implies, false_implies, implies_true, eq_self, not_true_eq_false, not_false_eq_true, Bool.false_eq_true, reduceCtorEq, forall_const, List.headD_cons, Nat.zero_add, true_or, or_true, ne_eq, false_and, and_false, false_or, or_false, Nat.reduceBEq, Bool.false_and, Bool.and_false, Bool.or_false, Bool.false_or, Bool.and_self, Bool.true_and, Bool.and_true, Bool.or_self, z10, z01, zm0, nz1, nz0, cnt0])
  refine c_M_find h (fun v hm hf hk hkk => ?_)
  have hn8 := hf.1.1.1
  simp only [gr_aloadn, gr_invokevirtual, NI_8, ps_0, ps_s, pu_n, pu_s, ct_0, ct_i, ct_l, ct_r, gr_iloadn, gr_ifCond_eq, gr_goto, gr_bipush, gr_ireturn, gr_nil, pI_c, pR_c, oI_c, oR_c, lg_i, lg_l, lg_r, lg_n, kI_p, kI_m, lk_0, lk_s, ar_n, ar_c, if_true, if_false, List.replicate, Nat.reduceAdd, Nat.reduceSub, Nat.reduceLeDiff, Nat.reduceEqDiff, Nat.reduceLT, reduceIte, true_and, and_true, true_implies, false_implies, implies_true, eq_self, not_true_eq_false, not_false_eq_true, Bool.false_eq_true, reduceCtorEq, forall_const, List.headD_cons, Nat.zero_add, true_or, or_true, ne_eq, false_and, and_false, false_or, or_false, Nat.reduceBEq, Bool.false_and, Bool.and_false, Bool.or_false, Bool.false_or, Bool.and_self, Bool.true_and, Bool.and_true, Bool.or_self, z10, z01, zm0, nz1, nz0, cnt0]
  refine c_M_isPoster hf.1.2.1 hn8 (fun g1 => ?_) (fun g => ?_)
  · simp only [gr_aloadn, gr_invokevirtual, NI_8, ps_0, ps_s, pu_n, pu_s, ct_0, ct_i, ct_l, ct_r, gr_iloadn, gr_ifCond_eq, gr_goto, gr_bipush, gr_ireturn, gr_nil, pI_c, pR_c, oI_c, oR_c, lg_i, lg_l, lg_r, lg_n, kI_p, kI_m, lk_0, lk_s, ar_n, ar_c, if_true, if_false, List.replicate, Nat.reduceAdd, Nat.reduceSub, Nat.reduceLeDiff, Nat.reduceEqDiff, Nat.reduceLT, reduceIte, true_and, and_true, true_implies, false_implies, implies_true, eq_self, not_true_eq_false, not_false_eq_true, Bool.false_eq_true, reduceCtorEq, forall_const, List.headD_cons, Nat.zero_add, true_or, or_true, ne_eq, false_and, and_false, false_or, or_false, Nat.reduceBEq, Bool.false_and, Bool.and_false, Bool.or_false, Bool.false_or, Bool.and_self, Bool.true_and, Bool.and_true, Bool.or_self, z10, z01, zm0, nz1, nz0, cnt0]
    obtain ⟨k, hk1, rfl⟩ := inB_ex (by omega) g1
    rw [if_pos g1, ix_n (by omega)] at hq
    refine c_M_askOf hk1 ⟨hm, hf⟩ (fun v1 hv1 hm1 => ?_)
    simp only [gr_aloadn, gr_invokevirtual, NI_8, ps_0, ps_s, pu_n, pu_s, ct_0, ct_i, ct_l, ct_r, gr_iloadn, gr_ifCond_eq, gr_goto, gr_bipush, gr_ireturn, gr_nil, pI_c, pR_c, oI_c, oR_c, lg_i, lg_l, lg_r, lg_n, kI_p, kI_m, lk_0, lk_s, ar_n, ar_c, if_true, if_false, List.replicate, Nat.reduceAdd, Nat.reduceSub, Nat.reduceLeDiff, Nat.reduceEqDiff, Nat.reduceLT, reduceIte, true_and, and_true, true_implies, false_implies, implies_true, eq_self, not_true_eq_false, not_false_eq_true, Bool.false_eq_true, reduceCtorEq, forall_const, List.headD_cons, Nat.zero_add, true_or, or_true, ne_eq, false_and, and_false, false_or, or_false, Nat.reduceBEq, Bool.false_and, Bool.and_false, Bool.or_false, Bool.false_or, Bool.and_self, Bool.true_and, Bool.and_true, Bool.or_self, z10, z01, zm0, nz1, nz0, cnt0]
    (refine rb_M_ask_2 ?_; simp only [bk_M_ask_2, gr_aloadn, gr_invokevirtual, NI_8, ps_0, ps_s, pu_n, pu_s, ct_0, ct_i, ct_l, ct_r, gr_iloadn, gr_ifCond_eq, gr_goto, gr_bipush, gr_ireturn, gr_nil, pI_c, pR_c, oI_c, oR_c, lg_i, lg_l, lg_r, lg_n, kI_p, kI_m, lk_0, lk_s, ar_n, ar_c, if_true, if_false, List.replicate, Nat.reduceAdd, Nat.reduceSub, Nat.reduceLeDiff, Nat.reduceEqDiff, Nat.reduceLT, reduceIte, true_and, and_true, true_implies, false_implies, implies_true, eq_self, not_true_eq_false, not_false_eq_true, Bool.false_eq_true, reduceCtorEq, forall_const, List.headD_cons, Nat.zero_add, true_or, or_true, ne_eq, false_and, and_false, false_or, or_false, Nat.reduceBEq, Bool.false_and, Bool.and_false, Bool.or_false, Bool.false_or, Bool.and_self, Bool.true_and, Bool.and_true, Bool.or_self, z10, z01, zm0, nz1, nz0, cnt0])
    exact hq v1 hv1.1 (hkk.tr hm1)
  · simp only [gr_aloadn, gr_invokevirtual, NI_8, ps_0, ps_s, pu_n, pu_s, ct_0, ct_i, ct_l, ct_r, gr_iloadn, gr_ifCond_eq, gr_goto, gr_bipush, gr_ireturn, gr_nil, pI_c, pR_c, oI_c, oR_c, lg_i, lg_l, lg_r, lg_n, kI_p, kI_m, lk_0, lk_s, ar_n, ar_c, if_true, if_false, List.replicate, Nat.reduceAdd, Nat.reduceSub, Nat.reduceLeDiff, Nat.reduceEqDiff, Nat.reduceLT, reduceIte, true_and, and_true, true_implies, false_implies, implies_true, eq_self, not_true_eq_false, not_false_eq_true, Bool.false_eq_true, reduceCtorEq, forall_const, List.headD_cons, Nat.zero_add, true_or, or_true, ne_eq, false_and, and_false, false_or, or_false, Nat.reduceBEq, Bool.false_and, Bool.and_false, Bool.or_false, Bool.false_or, Bool.and_self, Bool.true_and, Bool.and_true, Bool.or_self, z10, z01, zm0, nz1, nz0, cnt0]
    rw [g] at hq
    (refine rb_M_ask_1 ?_; simp only [bk_M_ask_1, gr_aloadn, gr_invokevirtual, NI_8, ps_0, ps_s, pu_n, pu_s, ct_0, ct_i, ct_l, ct_r, gr_iloadn, gr_ifCond_eq, gr_goto, gr_bipush, gr_ireturn, gr_nil, pI_c, pR_c, oI_c, oR_c, lg_i, lg_l, lg_r, lg_n, kI_p, kI_m, lk_0, lk_s, ar_n, ar_c, if_true, if_false, List.replicate, Nat.reduceAdd, Nat.reduceSub, Nat.reduceLeDiff, Nat.reduceEqDiff, Nat.reduceLT, reduceIte, true_and, and_true, true_implies, false_implies, implies_true, eq_self, not_true_eq_false, not_false_eq_true, Bool.false_eq_true, reduceCtorEq, forall_const, List.headD_cons, Nat.zero_add, true_or, or_true, ne_eq, false_and, and_false, false_or, or_false, Nat.reduceBEq, Bool.false_and, Bool.and_false, Bool.or_false, Bool.false_or, Bool.and_self, Bool.true_and, Bool.and_true, Bool.or_self, z10, z01, zm0, nz1, nz0, cnt0])
    (refine rb_M_ask_2 ?_; simp only [bk_M_ask_2, gr_aloadn, gr_invokevirtual, NI_8, ps_0, ps_s, pu_n, pu_s, ct_0, ct_i, ct_l, ct_r, gr_iloadn, gr_ifCond_eq, gr_goto, gr_bipush, gr_ireturn, gr_nil, pI_c, pR_c, oI_c, oR_c, lg_i, lg_l, lg_r, lg_n, kI_p, kI_m, lk_0, lk_s, ar_n, ar_c, if_true, if_false, List.replicate, Nat.reduceAdd, Nat.reduceSub, Nat.reduceLeDiff, Nat.reduceEqDiff, Nat.reduceLT, reduceIte, true_and, and_true, true_implies, false_implies, implies_true, eq_self, not_true_eq_false, not_false_eq_true, Bool.false_eq_true, reduceCtorEq, forall_const, List.headD_cons, Nat.zero_add, true_or, or_true, ne_eq, false_and, and_false, false_or, or_false, Nat.reduceBEq, Bool.false_and, Bool.and_false, Bool.or_false, Bool.false_or, Bool.and_self, Bool.true_and, Bool.and_true, Bool.or_self, z10, z01, zm0, nz1, nz0, cnt0])
    exact hq v hm hkk
