def inB (x : Int32) (n : Nat) : Bool := decide (¬ x < 0) && decide (¬ nI n ≤ x)
abbrev ix (x : Int32) : Nat := x.toNatClampNeg
theorem inB_n {k n : Nat} (hk : k < n) (hn : n < 2 ^ 31) : inB (nI k) n = true := by
  simp only [inB, decide_eq_true (nI_pos (show k < 2 ^ 31 by omega)), decide_eq_true (nI_ge hk hn), Bool.and_self]
theorem inB_no {x : Int32} {n : Nat} (h : x < 0 ∨ nI n ≤ x) : inB x n = false := by
  rcases h with h | h
  · simp [inB, h]
  · simp [inB, h]
theorem ix_n {k : Nat} (h : k < 2 ^ 31) : ix (nI k) = k := nI_clamp h
def opType (A : AS) (t b : Int32) : Int32 × AS := if (inB t 3 && inB b 256) = true then (if capT (ix t) ≤ (A.tx (ix t)).length then (-nI 4, A) else (nI ((A.tx (ix t)).length + 1), setTx A (ix t) (A.tx (ix t) ++ [ix b]))) else (-nI 2, A)
def opWipe (A : AS) (t : Int32) : Int32 × AS := if inB t 3 = true then (nI (A.tx (ix t)).length, setTx A (ix t) []) else (-nI 2, A)
def opUndo (A : AS) (t : Int32) : Int32 × AS := if inB t 3 = true then (if (A.tx (ix t)).length = 0 then (-nI 3, A) else (nI ((A.tx (ix t)).length - 1), setTx A (ix t) (A.tx (ix t)).dropLast)) else (-nI 2, A)
def opFault (A : AS) (t : Int32) : Int32 := if inB t 3 = true then flt (if ix t = 0 then (pText (A.tx 0)).1 else if ix t = 1 then rFault (A.tx 1) 0 else lFault (A.tx 2) 0) else -nI 2
def pInfo (n : Nat) (P : PF) (k w : Nat) : Int32 := if w < 5 then nI (P k w) else if w - 5 < P k 4 then nI (P k w) else -nI 1
def opPoster (A : AS) (k w : Int32) : Int32 := if (inB k A.n && inB w 9) = true then pInfo A.n A.P (ix k) (ix w) else -nI 2
def opRain (A : AS) (a : Int32) : Int32 := if inB a 20 = true then nI (A.R (ix a)) else -nI 2
def opLaw (A : AS) (c : Int32) : Int32 := if inB c 6 = true then A.V (ix c) else -nI 2
def opTear (A : AS) (a c : Int32) : Int32 × AS := if (inB a 20 && inB c 6) = true then (if 8 ≤ A.m then (-nI 4, A) else (nI (A.m + 1), setTr A (A.m + 1) (upN A.td A.m (ix a)) (upN A.tc A.m (ix c)))) else (-nI 2, A)
def opBack (A : AS) : Int32 × AS := if A.m = 0 then (-nI 3, A) else (nI (A.m - 1), setTr A (A.m - 1) A.td A.tc)
theorem tx_len {u : Mem} {t : Nat} {bs : List Nat} (h : Tx u t bs) : bs.length < 80 := by have := h.2.1; have := capT_le t; omega
theorem setTx_tx (A : AS) (t : Nat) (bs : List Nat) (x : Nat) : (setTx A t bs).tx x = if x = t then bs else A.tx x := rfl
theorem CT.set {A : AS} {u v : Mem} {t : Nat} {bs : List Nat} (h : CT A u) (ht : Tx v t bs) (hv : ∀ i j, i ≠ t → rd v 6 i 1 = rd u 6 i 1 ∧ rd v 23 i j = rd u 23 i j) : CT (setTx A t bs) v := by
  intro x hx
  rw [setTx_tx]
  by_cases e : x = t
  · subst e; rw [if_pos rfl]; exact ht
  · rw [if_neg e]; exact (h x hx).keep fun j => hv x j e
theorem setTx_0 {A : AS} {t : Nat} {bs : List Nat} {v : Mem} (h : t ≠ 0 → CP0 A v) : t ≠ 0 → CP0 (setTx A t bs) v := fun ht => by
  have e : (setTx A t bs).tx 0 = A.tx 0 := by rw [setTx_tx, if_neg (Ne.symm ht)]
  unfold CP0 AS.n AS.P
  rw [e]
  exact h ht
theorem setTx_1 {A : AS} {t : Nat} {bs : List Nat} {v : Mem} (h : t ≠ 1 → CP1 A v) : t ≠ 1 → CP1 (setTx A t bs) v := fun ht => by
  have e : (setTx A t bs).tx 1 = A.tx 1 := by rw [setTx_tx, if_neg (Ne.symm ht)]
  unfold CP1 AS.R
  rw [e]
  exact h ht
theorem setTx_2 {A : AS} {t : Nat} {bs : List Nat} {v : Mem} (h : t ≠ 2 → CP2 A v) : t ≠ 2 → CP2 (setTx A t bs) v := fun ht => by
  have e : (setTx A t bs).tx 2 = A.tx 2 := by rw [setTx_tx, if_neg (Ne.symm ht)]
  unfold CP2 AS.V AS.lc
  rw [e]
  exact h ht
set_option maxHeartbeats 4000000 in
set_option maxRecDepth 100000 in
theorem c_W_type {d : Nat} {t b : Int32} {A : AS} {u : Mem} {Q : Option MV → Mem → Prop} (h : CIn A u) (hq : ∀ v, CIn (opType A t b).2 v → KM u v → Q (some (.inl (opType A t b).1)) v) : OKm (d + 6) g_W_type [.inr (.inr (7, 0)), .inl t, .inl b] u Q := by
  have bad : (inB t 3 && inB b 256) = false → Q (some (.inl (-nI 2))) u := by
    intro e
    unfold opType at hq
    rw [if_neg (by simp [e])] at hq
    exact hq u h KM.rf
  (refine en_W_type _ (Nat.le_of_ble_eq_true rfl) (rb_W_type_0 ?_); simp only [bk_W_type_0, gr_iloadn, gr_iconst, gr_invokestatic, ps_0, ps_s, pu_n, pu_s, ct_0, ct_i, ct_l, ct_r, gr_ifCond_eq, gr_sipush, gr_ifCond_ne, gr_bipush, gr_ireturn, gr_aloadn, gr_getfield, fm_7_0, NI_7, gr_aaload, gr_invokevirtual, NI_6, fm_6_1, NI_24, ra_24, al_24, gr_nil, pI_c, pR_c, oI_c, oR_c, lg_i, lg_l, lg_r, lg_n, kI_p, kI_m, lk_0, lk_s, ar_n, ar_c, if_true, if_false, List.replicate, Nat.reduceAdd, Nat.reduceSub, Nat.reduceLeDiff, Nat.reduceEqDiff, Nat.reduceLT, reduceIte, true_and, and_true, true_implies, false_implies, implies_true, eq_self, not_true_eq_false, not_false_eq_true, Bool.false_eq_true, reduceCtorEq, forall_const, List.headD_cons, Nat.zero_add, true_or, or_true, ne_eq, false_and, and_false, false_or, or_false, Nat.reduceBEq, Bool.false_and, Bool.and_false, Bool.or_false, Bool.false_or, Bool.and_self, Bool.true_and, Bool.and_true, Bool.or_self, z10, z01, zm0, nz1, nz0, cnt0])
  refine c_W_isBelow (fun g1 g2 => ?_) (fun g => ?_)
  · simp only [gr_iloadn, gr_iconst, gr_invokestatic, ps_0, ps_s, pu_n, pu_s, ct_0, ct_i, ct_l, ct_r, gr_ifCond_eq, gr_sipush, gr_ifCond_ne, gr_bipush, gr_ireturn, gr_aloadn, gr_getfield, fm_7_0, NI_7, gr_aaload, gr_invokevirtual, NI_6, fm_6_1, NI_24, ra_24, al_24, gr_nil, pI_c, pR_c, oI_c, oR_c, lg_i, lg_l, lg_r, lg_n, kI_p, kI_m, lk_0, lk_s, ar_n, ar_c, if_true, if_false, List.replicate, Nat.reduceAdd, Nat.reduceSub, Nat.reduceLeDiff, Nat.reduceEqDiff, Nat.reduceLT, reduceIte, true_and, and_true, true_implies, false_implies, implies_true, eq_self, not_true_eq_false, not_false_eq_true, Bool.false_eq_true, reduceCtorEq, forall_const, List.headD_cons, Nat.zero_add, true_or, or_true, ne_eq, false_and, and_false, false_or, or_false, Nat.reduceBEq, Bool.false_and, Bool.and_false, Bool.or_false, Bool.false_or, Bool.and_self, Bool.true_and, Bool.and_true, Bool.or_self, z10, z01, zm0, nz1, nz0, cnt0]
    refine c_W_isBelow (fun g3 g4 => ?_) (fun g => ?_)
    · simp only [gr_iloadn, gr_iconst, gr_invokestatic, ps_0, ps_s, pu_n, pu_s, ct_0, ct_i, ct_l, ct_r, gr_ifCond_eq, gr_sipush, gr_ifCond_ne, gr_bipush, gr_ireturn, gr_aloadn, gr_getfield, fm_7_0, NI_7, gr_aaload, gr_invokevirtual, NI_6, fm_6_1, NI_24, ra_24, al_24, gr_nil, pI_c, pR_c, oI_c, oR_c, lg_i, lg_l, lg_r, lg_n, kI_p, kI_m, lk_0, lk_s, ar_n, ar_c, if_true, if_false, List.replicate, Nat.reduceAdd, Nat.reduceSub, Nat.reduceLeDiff, Nat.reduceEqDiff, Nat.reduceLT, reduceIte, true_and, and_true, true_implies, false_implies, implies_true, eq_self, not_true_eq_false, not_false_eq_true, Bool.false_eq_true, reduceCtorEq, forall_const, List.headD_cons, Nat.zero_add, true_or, or_true, ne_eq, false_and, and_false, false_or, or_false, Nat.reduceBEq, Bool.false_and, Bool.and_false, Bool.or_false, Bool.false_or, Bool.and_self, Bool.true_and, Bool.and_true, Bool.or_self, z10, z01, zm0, nz1, nz0, cnt0]
      obtain ⟨k, hk, rfl⟩ := i_of (by omega) g1 g2
      obtain ⟨x, hx, rfl⟩ := i_of (by omega) g3 g4
      obtain ⟨q1, q2, q3, q4⟩ := h.1 k hk
      have hlen := tx_len (h.1 k hk)
      unfold opType at hq
      rw [if_pos (by rw [inB_n hk (by omega), inB_n hx (by omega)]; rfl), ix_n (by omega), ix_n (by omega)] at hq
      (refine rb_W_type_2 ?_; simp only [bk_W_type_2, gr_iloadn, gr_iconst, gr_invokestatic, ps_0, ps_s, pu_n, pu_s, ct_0, ct_i, ct_l, ct_r, gr_ifCond_eq, gr_sipush, gr_ifCond_ne, gr_bipush, gr_ireturn, gr_aloadn, gr_getfield, fm_7_0, NI_7, gr_aaload, gr_invokevirtual, NI_6, fm_6_1, NI_24, ra_24, al_24, gr_nil, pI_c, pR_c, oI_c, oR_c, lg_i, lg_l, lg_r, lg_n, kI_p, kI_m, lk_0, lk_s, ar_n, ar_c, if_true, if_false, List.replicate, Nat.reduceAdd, Nat.reduceSub, Nat.reduceLeDiff, Nat.reduceEqDiff, Nat.reduceLT, reduceIte, true_and, and_true, true_implies, false_implies, implies_true, eq_self, not_true_eq_false, not_false_eq_true, Bool.false_eq_true, reduceCtorEq, forall_const, List.headD_cons, Nat.zero_add, true_or, or_true, ne_eq, false_and, and_false, false_or, or_false, Nat.reduceBEq, Bool.false_and, Bool.and_false, Bool.or_false, Bool.false_or, Bool.and_self, Bool.true_and, Bool.and_true, Bool.or_self, z10, z01, zm0, nz1, nz0, cnt0])
      simp (disch := omega) only [nI_leI, nI_ltI, nI_eq, nI_add, pk_mul, nI_clamp, vp_nI, nI_lt0, nI_ge0, nI_eq0, nI_gt0, nI_le0, nI_neg1, neg1_nI, Nat.not_le, Nat.not_lt, if_true, if_false, true_and, and_true, true_implies, false_implies, implies_true, not_true_eq_false, not_false_eq_true, reduceIte, false_or, or_false, false_and, and_false, true_or, or_true, Nat.zero_add]
      refine ⟨by omega, by omega, c_X_isFull hk q1 (by omega) (fun hf => ?_) (fun hf => ?_)⟩
      · simp only [gr_iloadn, gr_iconst, gr_invokestatic, ps_0, ps_s, pu_n, pu_s, ct_0, ct_i, ct_l, ct_r, gr_ifCond_eq, gr_sipush, gr_ifCond_ne, gr_bipush, gr_ireturn, gr_aloadn, gr_getfield, fm_7_0, NI_7, gr_aaload, gr_invokevirtual, NI_6, fm_6_1, NI_24, ra_24, al_24, gr_nil, pI_c, pR_c, oI_c, oR_c, lg_i, lg_l, lg_r, lg_n, kI_p, kI_m, lk_0, lk_s, ar_n, ar_c, if_true, if_false, List.replicate, Nat.reduceAdd, Nat.reduceSub, Nat.reduceLeDiff, Nat.reduceEqDiff, Nat.reduceLT, reduceIte, true_and, and_true, true_implies, false_implies, implies_true, eq_self, not_true_eq_false, not_false_eq_true, Bool.false_eq_true, reduceCtorEq, forall_const, List.headD_cons, Nat.zero_add, true_or, or_true, ne_eq, false_and, and_false, false_or, or_false, Nat.reduceBEq, Bool.false_and, Bool.and_false, Bool.or_false, Bool.false_or, Bool.and_self, Bool.true_and, Bool.and_true, Bool.or_self, z10, z01, zm0, nz1, nz0, cnt0]
        rw [if_pos hf] at hq
        exact hq u h KM.rf
      · simp only [gr_iloadn, gr_iconst, gr_invokestatic, ps_0, ps_s, pu_n, pu_s, ct_0, ct_i, ct_l, ct_r, gr_ifCond_eq, gr_sipush, gr_ifCond_ne, gr_bipush, gr_ireturn, gr_aloadn, gr_getfield, fm_7_0, NI_7, gr_aaload, gr_invokevirtual, NI_6, fm_6_1, NI_24, ra_24, al_24, gr_nil, pI_c, pR_c, oI_c, oR_c, lg_i, lg_l, lg_r, lg_n, kI_p, kI_m, lk_0, lk_s, ar_n, ar_c, if_true, if_false, List.replicate, Nat.reduceAdd, Nat.reduceSub, Nat.reduceLeDiff, Nat.reduceEqDiff, Nat.reduceLT, reduceIte, true_and, and_true, true_implies, false_implies, implies_true, eq_self, not_true_eq_false, not_false_eq_true, Bool.false_eq_true, reduceCtorEq, forall_const, List.headD_cons, Nat.zero_add, true_or, or_true, ne_eq, false_and, and_false, false_or, or_false, Nat.reduceBEq, Bool.false_and, Bool.and_false, Bool.or_false, Bool.false_or, Bool.and_self, Bool.true_and, Bool.and_true, Bool.or_self, z10, z01, zm0, nz1, nz0, cnt0]
        rw [if_neg (by omega)] at hq
        (refine rb_W_type_3 ?_; simp only [bk_W_type_3, gr_iloadn, gr_iconst, gr_invokestatic, ps_0, ps_s, pu_n, pu_s, ct_0, ct_i, ct_l, ct_r, gr_ifCond_eq, gr_sipush, gr_ifCond_ne, gr_bipush, gr_ireturn, gr_aloadn, gr_getfield, fm_7_0, NI_7, gr_aaload, gr_invokevirtual, NI_6, fm_6_1, NI_24, ra_24, al_24, gr_nil, pI_c, pR_c, oI_c, oR_c, lg_i, lg_l, lg_r, lg_n, kI_p, kI_m, lk_0, lk_s, ar_n, ar_c, if_true, if_false, List.replicate, Nat.reduceAdd, Nat.reduceSub, Nat.reduceLeDiff, Nat.reduceEqDiff, Nat.reduceLT, reduceIte, true_and, and_true, true_implies, false_implies, implies_true, eq_self, not_true_eq_false, not_false_eq_true, Bool.false_eq_true, reduceCtorEq, forall_const, List.headD_cons, Nat.zero_add, true_or, or_true, ne_eq, false_and, and_false, false_or, or_false, Nat.reduceBEq, Bool.false_and, Bool.and_false, Bool.or_false, Bool.false_or, Bool.and_self, Bool.true_and, Bool.and_true, Bool.or_self, z10, z01, zm0, nz1, nz0, cnt0])
        simp (disch := omega) only [nI_leI, nI_ltI, nI_eq, nI_add, pk_mul, nI_clamp, vp_nI, nI_lt0, nI_ge0, nI_eq0, nI_gt0, nI_le0, nI_neg1, neg1_nI, Nat.not_le, Nat.not_lt, if_true, if_false, true_and, and_true, true_implies, false_implies, implies_true, not_true_eq_false, not_false_eq_true, reduceIte, false_or, or_false, false_and, and_false, true_or, or_true, Nat.zero_add]
        refine ⟨by omega, by omega, c_X_push hk q1 hf ?_⟩
        simp only [gr_iloadn, gr_iconst, gr_invokestatic, ps_0, ps_s, pu_n, pu_s, ct_0, ct_i, ct_l, ct_r, gr_ifCond_eq, gr_sipush, gr_ifCond_ne, gr_bipush, gr_ireturn, gr_aloadn, gr_getfield, fm_7_0, NI_7, gr_aaload, gr_invokevirtual, NI_6, fm_6_1, NI_24, ra_24, al_24, gr_nil, pI_c, pR_c, oI_c, oR_c, lg_i, lg_l, lg_r, lg_n, kI_p, kI_m, lk_0, lk_s, ar_n, ar_c, if_true, if_false, List.replicate, Nat.reduceAdd, Nat.reduceSub, Nat.reduceLeDiff, Nat.reduceEqDiff, Nat.reduceLT, reduceIte, true_and, and_true, true_implies, false_implies, implies_true, eq_self, not_true_eq_false, not_false_eq_true, Bool.false_eq_true, reduceCtorEq, forall_const, List.headD_cons, Nat.zero_add, true_or, or_true, ne_eq, false_and, and_false, false_or, or_false, Nat.reduceBEq, Bool.false_and, Bool.and_false, Bool.or_false, Bool.false_or, Bool.and_self, Bool.true_and, Bool.and_true, Bool.or_self, z10, z01, zm0, nz1, nz0, cnt0]
        have hct : CT (setTx A k (A.tx k ++ [x])) (wr (wr u 23 k (A.tx k).length (nI x)) 6 k 1 (nI ((A.tx k).length + 1))) := by
          refine h.1.set ⟨by simp [rd_wr], by simp; omega, fun i b hb => ?_, fun b hb => ?_⟩ (fun i j hi => by simp [rd_wr, hi])
          · simp only [rd_wr, Nat.reduceEqDiff, false_and, if_false, true_and]
            by_cases e : i = (A.tx k).length
            · rw [if_pos e]
              rw [e] at hb
              simp at hb
              rw [hb]
            · rw [if_neg e]
              have hi : i < (A.tx k).length := by
                have := (List.getElem?_eq_some_iff.mp hb).1
                simp at this
                omega
              rw [List.getElem?_append_left hi] at hb
              exact q3 i b hb
          · rcases List.mem_append.mp hb with h1 | h1
            · exact q4 b h1
            · simp at h1; omega
        refine c_W_take hk hct (setTx_0 fun _ => h.2.1.keep (by simp [rd_wr]) (by simp [rd_wr]) fun i j => by simp [rd_wr]) (setTx_1 fun _ => h.2.2.1.keep (by simp [rd_wr]) (by simp [rd_wr]) fun j => by simp [rd_wr]) (setTx_2 fun _ => h.2.2.2.1.keep (by simp [rd_wr]) (by simp [rd_wr]) fun j => by simp [rd_wr]) (CR3.keep (A := A) h.2.2.2.2.1 (by simp [rd_wr]) (by simp [rd_wr]) fun j => by simp [rd_wr]) (CS.keep (A := A) h.2.2.2.2.2.1 (fun c i j hc => by rw [rd_wr, if_neg (by omega), rd_wr, if_neg (by omega)]) (by simp [rd_wr])) (fun v hv hm => ?_)
        simp only [gr_iloadn, gr_iconst, gr_invokestatic, ps_0, ps_s, pu_n, pu_s, ct_0, ct_i, ct_l, ct_r, gr_ifCond_eq, gr_sipush, gr_ifCond_ne, gr_bipush, gr_ireturn, gr_aloadn, gr_getfield, fm_7_0, NI_7, gr_aaload, gr_invokevirtual, NI_6, fm_6_1, NI_24, ra_24, al_24, gr_nil, pI_c, pR_c, oI_c, oR_c, lg_i, lg_l, lg_r, lg_n, kI_p, kI_m, lk_0, lk_s, ar_n, ar_c, if_true, if_false, List.replicate, Nat.reduceAdd, Nat.reduceSub, Nat.reduceLeDiff, Nat.reduceEqDiff, Nat.reduceLT, reduceIte, true_and, and_true, true_implies, false_implies, implies_true, eq_self, not_true_eq_false, not_false_eq_true, Bool.false_eq_true, reduceCtorEq, forall_const, List.headD_cons, Nat.zero_add, true_or, or_true, ne_eq, false_and, and_false, false_or, or_false, Nat.reduceBEq, Bool.false_and, Bool.and_false, Bool.or_false, Bool.false_or, Bool.and_self, Bool.true_and, Bool.and_true, Bool.or_self, z10, z01, zm0, nz1, nz0, cnt0]
        have e6 := (hv.1 k hk).1
        rw [setTx_tx, if_pos rfl, List.length_append, List.length_singleton] at e6
        simp (disch := omega) only [nI_leI, nI_ltI, nI_eq, nI_add, pk_mul, nI_clamp, vp_nI, nI_lt0, nI_ge0, nI_eq0, nI_gt0, nI_le0, nI_neg1, neg1_nI, Nat.not_le, Nat.not_lt, if_true, if_false, true_and, and_true, true_implies, false_implies, implies_true, not_true_eq_false, not_false_eq_true, reduceIte, false_or, or_false, false_and, and_false, true_or, or_true, Nat.zero_add, e6]
        exact ⟨by omega, by omega, hq v hv (((KM.rf.wr _ _ _ _ (by omega)).wr _ _ _ _ (by omega)).tr hm)⟩
    · simp only [gr_iloadn, gr_iconst, gr_invokestatic, ps_0, ps_s, pu_n, pu_s, ct_0, ct_i, ct_l, ct_r, gr_ifCond_eq, gr_sipush, gr_ifCond_ne, gr_bipush, gr_ireturn, gr_aloadn, gr_getfield, fm_7_0, NI_7, gr_aaload, gr_invokevirtual, NI_6, fm_6_1, NI_24, ra_24, al_24, gr_nil, pI_c, pR_c, oI_c, oR_c, lg_i, lg_l, lg_r, lg_n, kI_p, kI_m, lk_0, lk_s, ar_n, ar_c, if_true, if_false, List.replicate, Nat.reduceAdd, Nat.reduceSub, Nat.reduceLeDiff, Nat.reduceEqDiff, Nat.reduceLT, reduceIte, true_and, and_true, true_implies, false_implies, implies_true, eq_self, not_true_eq_false, not_false_eq_true, Bool.false_eq_true, reduceCtorEq, forall_const, List.headD_cons, Nat.zero_add, true_or, or_true, ne_eq, false_and, and_false, false_or, or_false, Nat.reduceBEq, Bool.false_and, Bool.and_false, Bool.or_false, Bool.false_or, Bool.and_self, Bool.true_and, Bool.and_true, Bool.or_self, z10, z01, zm0, nz1, nz0, cnt0]
      (refine rb_W_type_1 ?_; simp only [bk_W_type_1, gr_iloadn, gr_iconst, gr_invokestatic, ps_0, ps_s, pu_n, pu_s, ct_0, ct_i, ct_l, ct_r, gr_ifCond_eq, gr_sipush, gr_ifCond_ne, gr_bipush, gr_ireturn, gr_aloadn, gr_getfield, fm_7_0, NI_7, gr_aaload, gr_invokevirtual, NI_6, fm_6_1, NI_24, ra_24, al_24, gr_nil, pI_c, pR_c, oI_c, oR_c, lg_i, lg_l, lg_r, lg_n, kI_p, kI_m, lk_0, lk_s, ar_n, ar_c, if_true, if_false, List.replicate, Nat.reduceAdd, Nat.reduceSub, Nat.reduceLeDiff, Nat.reduceEqDiff, Nat.reduceLT, reduceIte, true_and, and_true, true_implies, false_implies, implies_true, eq_self, not_true_eq_false, not_false_eq_true, Bool.false_eq_true, reduceCtorEq, forall_const, List.headD_cons, Nat.zero_add, true_or, or_true, ne_eq, false_and, and_false, false_or, or_false, Nat.reduceBEq, Bool.false_and, Bool.and_false, Bool.or_false, Bool.false_or, Bool.and_self, Bool.true_and, Bool.and_true, Bool.or_self, z10, z01, zm0, nz1, nz0, cnt0])
      exact bad (by rw [inB_no g, Bool.and_false])
  · simp only [gr_iloadn, gr_iconst, gr_invokestatic, ps_0, ps_s, pu_n, pu_s, ct_0, ct_i, ct_l, ct_r, gr_ifCond_eq, gr_sipush, gr_ifCond_ne, gr_bipush, gr_ireturn, gr_aloadn, gr_getfield, fm_7_0, NI_7, gr_aaload, gr_invokevirtual, NI_6, fm_6_1, NI_24, ra_24, al_24, gr_nil, pI_c, pR_c, oI_c, oR_c, lg_i, lg_l, lg_r, lg_n, kI_p, kI_m, lk_0, lk_s, ar_n, ar_c, if_true, if_false, List.replicate, Nat.reduceAdd, Nat.reduceSub, Nat.reduceLeDiff, Nat.reduceEqDiff, Nat.reduceLT, reduceIte, true_and, and_true, true_implies, false_implies, implies_true, eq_self, not_true_eq_false, not_false_eq_true, Bool.false_eq_true, reduceCtorEq, forall_const, List.headD_cons, Nat.zero_add, true_or, or_true, ne_eq, false_and, and_false, false_or, or_false, Nat.reduceBEq, Bool.false_and, Bool.and_false, Bool.or_false, Bool.false_or, Bool.and_self, Bool.true_and, Bool.and_true, Bool.or_self, z10, z01, zm0, nz1, nz0, cnt0]
    (refine rb_W_type_1 ?_; simp only [bk_W_type_1, gr_iloadn, gr_iconst, gr_invokestatic, ps_0, ps_s, pu_n, pu_s, ct_0, ct_i, ct_l, ct_r, gr_ifCond_eq, gr_sipush, gr_ifCond_ne, gr_bipush, gr_ireturn, gr_aloadn, gr_getfield, fm_7_0, NI_7, gr_aaload, gr_invokevirtual, NI_6, fm_6_1, NI_24, ra_24, al_24, gr_nil, pI_c, pR_c, oI_c, oR_c, lg_i, lg_l, lg_r, lg_n, kI_p, kI_m, lk_0, lk_s, ar_n, ar_c, if_true, if_false, List.replicate, Nat.reduceAdd, Nat.reduceSub, Nat.reduceLeDiff, Nat.reduceEqDiff, Nat.reduceLT, reduceIte, true_and, and_true, true_implies, false_implies, implies_true, eq_self, not_true_eq_false, not_false_eq_true, Bool.false_eq_true, reduceCtorEq, forall_const, List.headD_cons, Nat.zero_add, true_or, or_true, ne_eq, false_and, and_false, false_or, or_false, Nat.reduceBEq, Bool.false_and, Bool.and_false, Bool.or_false, Bool.false_or, Bool.and_self, Bool.true_and, Bool.and_true, Bool.or_self, z10, z01, zm0, nz1, nz0, cnt0])
    exact bad (by rw [inB_no g, Bool.false_and])
