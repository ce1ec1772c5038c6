def rFault : List Nat → Nat → Option Nat
  | [], _ => none
  | b :: bs, i => if 48 ≤ b ∧ b ≤ 57 then rFault bs (i + 1) else some i
def rRain (bs : List Nat) (a : Nat) : Nat := if rFault bs 0 = none then (match bs[a]? with
  | some b => b - 48
  | none => 0) else 0
def rCnt (bs : List Nat) : Nat := if rFault bs 0 = none then bs.length else 0
def lFault : List Nat → Nat → Option Nat
  | [], _ => none
  | b :: bs, i => if b = 46 ∨ (97 ≤ b ∧ b ≤ 104) then lFault bs (i + 1) else some i
def lLet (bs : List Nat) (c : Nat) : Int32 := match bs[c]? with
  | some b => if b = 46 then -nI 1 else nI (b - 97)
  | none => -nI 1
def lLaw (bs : List Nat) (c : Nat) : Int32 := if lFault bs 0 = none then lLet bs c else -nI 1
def lCntN (bs : List Nat) : Nat → Nat
  | 0 => 0
  | i + 1 => lCntN bs i + (if lLet bs i = -nI 1 then 0 else 1)
def lCnt (bs : List Nat) : Nat := if lFault bs 0 = none then lCntN bs 6 else 0
theorem drop_facts {bs : List Nat} {i b : Nat} {rest : List Nat} (hd : bs.drop i = b :: rest) : i < bs.length ∧ bs[i]? = some b ∧ bs.drop (i + 1) = rest := by
  refine ⟨?_, ?_, ?_⟩
  · have := congrArg List.length hd
    simp at this
    omega
  · have : (bs.drop i)[0]? = some b := by rw [hd]; rfl
    simpa using this
  · have : (bs.drop i).tail = rest := by rw [hd]; rfl
    simpa using this
theorem drop_nil {bs : List Nat} {i : Nat} (hd : bs.drop i = []) (hi : i ≤ bs.length) : i = bs.length := by
  have := congrArg List.length hd
  simp at this
  omega
theorem rFault_ok : ∀ (bs : List Nat) (k : Nat), rFault bs k = none → ∀ (i b : Nat), bs[i]? = some b → 48 ≤ b ∧ b ≤ 57 := by
  intro bs
  induction bs with
  | nil => intro k _ i b h; simp at h
  | cons x r ih =>
    intro k h i b hb
    simp only [rFault] at h
    split at h
    · next hx =>
      cases i with
      | zero => simp at hb; subst hb; exact hx
      | succ i => exact ih (k + 1) h i b (by simpa using hb)
    · cases h
theorem lFault_ok : ∀ (bs : List Nat) (k : Nat), lFault bs k = none → ∀ (i b : Nat), bs[i]? = some b → b = 46 ∨ (97 ≤ b ∧ b ≤ 104) := by
  intro bs
  induction bs with
  | nil => intro k _ i b h; simp at h
  | cons x r ih =>
    intro k h i b hb
    simp only [lFault] at h
    split at h
    · next hx =>
      cases i with
      | zero => simp at hb; subst hb; exact hx
      | succ i => exact ih (k + 1) h i b (by simpa using hb)
    · cases h
theorem rRain_lt (bs : List Nat) (a : Nat) : rRain bs a < 10 := by
  unfold rRain
  split
  · next h =>
    split
    · next b hb => have := rFault_ok bs 0 h a b hb; omega
    · omega
  · omega
theorem lCntN_le (bs : List Nat) : ∀ n, lCntN bs n ≤ n := by
  intro n
  induction n with
  | zero => exact Nat.le_refl _
  | succ n ih => simp only [lCntN]; split <;> omega
theorem lCntN_eq (bs : List Nat) : ∀ n, bs.length ≤ n → lCntN bs n = lCntN bs bs.length := by
  intro n
  induction n with
  | zero => intro h; rw [show bs.length = 0 by omega]
  | succ n ih =>
    intro h
    by_cases e : bs.length = n + 1
    · rw [e]
    · have hn : bs[n]? = none := by simp; omega
      simp only [lCntN, lLet, hn, if_true, Nat.add_zero]
      exact ih (by omega)
/-- rains in memory -/
def Rn (u : Mem) (R : Nat → Nat) (rc : Nat) : Prop := (∀ a, a < 20 → rd u 14 0 a = nI (R a)) ∧ rd u 2 0 6 = nI rc
set_option maxHeartbeats 4000000 in
set_option maxRecDepth 100000 in
theorem c_N_takeRains {d : Nat} {bs : List Nat} {u : Mem} {Q : Option MV → Mem → Prop} (ht : Tx u 1 bs) (hq : ∀ v, Rn v (rRain bs) (rCnt bs) → Sm (fun c i j => (c = 14 ∧ i = 0) ∨ (c = 2 ∧ i = 0 ∧ j = 6)) u v → Q (some (.inl (flt (rFault bs 0)))) v) : OKm (d + 3) g_N_takeRains [.inr (.inr (2, 0)), .inr (.inr (6, 1))] u Q := by
  have hsz : bs.length ≤ 20 := ht.2.1
  have tx : ∀ v, Sm (fun c i j => (c = 14 ∧ i = 0) ∨ (c = 2 ∧ i = 0 ∧ j = 6)) u v → Tx v 1 bs := fun v hs => ht.keep fun j => ⟨hs.1 _ _ _ (by rintro (h | h) <;> omega), hs.1 _ _ _ (by rintro (h | h) <;> omega)⟩
  (refine en_N_takeRains _ (Nat.le_of_ble_eq_true rfl) (rb_N_takeRains_0 ?_); simp only [bk_N_takeRains_0, gr_aloadn, gr_iconst, gr_putfield, fk_2_6, iz_2_6, NI_2, gr_getfield, fm_2_1, gr_invokestatic, ps_0, ps_s, pu_n, pu_s, ct_0, ct_i, ct_l, ct_r, gr_istoren, st1, clr_0, clr_s, sk_0, sk_s, gr_iloadn, fm_6_1, NI_6, gr_ificmp_ge, gr_invokevirtual, gr_bipush, gr_isub, gr_ifCond_ne, gr_ireturn, gr_iinc, gr_goto, gr_arraylength, gr_iastore, gr_dup, pA_i, pA_r, fm_2_6, gr_iadd, NI_14, ia_14, ln_14, al_14, gr_nil, pI_c, pR_c, oI_c, oR_c, lg_i, lg_l, lg_r, lg_n, kI_p, kI_m, lk_0, lk_s, ar_n, ar_c, if_true, if_false, List.replicate, Nat.reduceAdd, Nat.reduceSub, Nat.reduceLeDiff, Nat.reduceEqDiff, Nat.reduceLT, reduceIte, true_and, and_true, true_implies, false_implies, implies_true, eq_self, not_true_eq_false, not_false_eq_true, Bool.false_eq_true, reduceCtorEq, forall_const, List.headD_cons, Nat.zero_add, true_or, or_true, ne_eq, false_and, and_false, false_or, or_false, Nat.reduceBEq, Bool.false_and, Bool.and_false, Bool.or_false, Bool.false_or, Bool.and_self, Bool.true_and, Bool.and_true, Bool.or_self, z10, z01, zm0, nz1, nz0, cnt0])
  refine c_J_fill rfl (by decide) (by decide) (fun v0 hf0 hs0 => ?_)
  simp only [gr_aloadn, gr_iconst, gr_putfield, fk_2_6, iz_2_6, NI_2, gr_getfield, fm_2_1, gr_invokestatic, ps_0, ps_s, pu_n, pu_s, ct_0, ct_i, ct_l, ct_r, gr_istoren, st1, clr_0, clr_s, sk_0, sk_s, gr_iloadn, fm_6_1, NI_6, gr_ificmp_ge, gr_invokevirtual, gr_bipush, gr_isub, gr_ifCond_ne, gr_ireturn, gr_iinc, gr_goto, gr_arraylength, gr_iastore, gr_dup, pA_i, pA_r, fm_2_6, gr_iadd, NI_14, ia_14, ln_14, al_14, gr_nil, pI_c, pR_c, oI_c, oR_c, lg_i, lg_l, lg_r, lg_n, kI_p, kI_m, lk_0, lk_s, ar_n, ar_c, if_true, if_false, List.replicate, Nat.reduceAdd, Nat.reduceSub, Nat.reduceLeDiff, Nat.reduceEqDiff, Nat.reduceLT, reduceIte, true_and, and_true, true_implies, false_implies, implies_true, eq_self, not_true_eq_false, not_false_eq_true, Bool.false_eq_true, reduceCtorEq, forall_const, List.headD_cons, Nat.zero_add, true_or, or_true, ne_eq, false_and, and_false, false_or, or_false, Nat.reduceBEq, Bool.false_and, Bool.and_false, Bool.or_false, Bool.false_or, Bool.and_self, Bool.true_and, Bool.and_true, Bool.or_self, z10, z01, zm0, nz1, nz0, cnt0]
  have hs0' : Sm (fun c i j => (c = 14 ∧ i = 0) ∨ (c = 2 ∧ i = 0 ∧ j = 6)) u v0 := (Sm.rf.wr _ (Or.inr ⟨rfl, rfl, rfl⟩)).tr (hs0.wk fun c i j hc => Or.inl hc)
  have h60 : rd v0 2 0 6 = nI 0 := by rw [hs0.1 _ _ _ (by rintro ⟨h, -⟩; omega)]; simp [rd_wr]
  have h140 : ∀ a, a < 20 → rd v0 14 0 a = nI 0 := fun a ha => hf0 a ha
  have htx := tx v0 hs0'
  have h6 := htx.1
  have loop : ∀ (rest : List Nat) (i : Nat), bs.drop i = rest → i ≤ bs.length → rFault rest i = rFault bs 0 → RunB (d + 3) Y_N_takeRains 1 [some (.inr (.inr (2, 0))), some (.inr (.inr (6, 1))), some (.inl (nI i))] [] v0 Q := by
    intro rest
    induction rest with
    | nil =>
      intro i hd hi he
      have hi' := drop_nil hd hi
      (refine rb_N_takeRains_1 ?_; simp only [bk_N_takeRains_1, gr_aloadn, gr_iconst, gr_putfield, fk_2_6, iz_2_6, NI_2, gr_getfield, fm_2_1, gr_invokestatic, ps_0, ps_s, pu_n, pu_s, ct_0, ct_i, ct_l, ct_r, gr_istoren, st1, clr_0, clr_s, sk_0, sk_s, gr_iloadn, fm_6_1, NI_6, gr_ificmp_ge, gr_invokevirtual, gr_bipush, gr_isub, gr_ifCond_ne, gr_ireturn, gr_iinc, gr_goto, gr_arraylength, gr_iastore, gr_dup, pA_i, pA_r, fm_2_6, gr_iadd, NI_14, ia_14, ln_14, al_14, gr_nil, pI_c, pR_c, oI_c, oR_c, lg_i, lg_l, lg_r, lg_n, kI_p, kI_m, lk_0, lk_s, ar_n, ar_c, if_true, if_false, List.replicate, Nat.reduceAdd, Nat.reduceSub, Nat.reduceLeDiff, Nat.reduceEqDiff, Nat.reduceLT, reduceIte, true_and, and_true, true_implies, false_implies, implies_true, eq_self, not_true_eq_false, not_false_eq_true, Bool.false_eq_true, reduceCtorEq, forall_const, List.headD_cons, Nat.zero_add, true_or, or_true, ne_eq, false_and, and_false, false_or, or_false, Nat.reduceBEq, Bool.false_and, Bool.and_false, Bool.or_false, Bool.false_or, Bool.and_self, Bool.true_and, Bool.and_true, Bool.or_self, z10, z01, zm0, nz1, nz0, cnt0, h6])
      refine ⟨fun _ => ?_, fun h => absurd (nI_le (by omega) (by omega)) h⟩
      (refine rb_N_takeRains_3 ?_; simp only [bk_N_takeRains_3, gr_aloadn, gr_iconst, gr_putfield, fk_2_6, iz_2_6, NI_2, gr_getfield, fm_2_1, gr_invokestatic, ps_0, ps_s, pu_n, pu_s, ct_0, ct_i, ct_l, ct_r, gr_istoren, st1, clr_0, clr_s, sk_0, sk_s, gr_iloadn, fm_6_1, NI_6, gr_ificmp_ge, gr_invokevirtual, gr_bipush, gr_isub, gr_ifCond_ne, gr_ireturn, gr_iinc, gr_goto, gr_arraylength, gr_iastore, gr_dup, pA_i, pA_r, fm_2_6, gr_iadd, NI_14, ia_14, ln_14, al_14, gr_nil, pI_c, pR_c, oI_c, oR_c, lg_i, lg_l, lg_r, lg_n, kI_p, kI_m, lk_0, lk_s, ar_n, ar_c, if_true, if_false, List.replicate, Nat.reduceAdd, Nat.reduceSub, Nat.reduceLeDiff, Nat.reduceEqDiff, Nat.reduceLT, reduceIte, true_and, and_true, true_implies, false_implies, implies_true, eq_self, not_true_eq_false, not_false_eq_true, Bool.false_eq_true, reduceCtorEq, forall_const, List.headD_cons, Nat.zero_add, true_or, or_true, ne_eq, false_and, and_false, false_or, or_false, Nat.reduceBEq, Bool.false_and, Bool.and_false, Bool.or_false, Bool.false_or, Bool.and_self, Bool.true_and, Bool.and_true, Bool.or_self, z10, z01, zm0, nz1, nz0, cnt0])
      simp only [rFault] at he
      have hr : ∀ a, rRain bs a = match bs[a]? with | some b => b - 48 | none => 0 := fun a => by unfold rRain; rw [if_pos he.symm]
      have loop2 : ∀ (n j : Nat) (v : Mem), j + n = bs.length → (∀ a, a < 20 → rd v 14 0 a = nI (if a < j then rRain bs a else 0)) → rd v 2 0 6 = nI j → Sm (fun c i j => (c = 14 ∧ i = 0) ∨ (c = 2 ∧ i = 0 ∧ j = 6)) u v → RunB (d + 3) Y_N_takeRains 4 [some (.inr (.inr (2, 0))), some (.inr (.inr (6, 1))), some (.inl (nI j))] [] v Q := by
        intro n
        induction n with
        | zero =>
          intro j v hj hv hc hs
          have h6 := (tx v hs).1
          (refine rb_N_takeRains_4 ?_; simp only [bk_N_takeRains_4, gr_aloadn, gr_iconst, gr_putfield, fk_2_6, iz_2_6, NI_2, gr_getfield, fm_2_1, gr_invokestatic, ps_0, ps_s, pu_n, pu_s, ct_0, ct_i, ct_l, ct_r, gr_istoren, st1, clr_0, clr_s, sk_0, sk_s, gr_iloadn, fm_6_1, NI_6, gr_ificmp_ge, gr_invokevirtual, gr_bipush, gr_isub, gr_ifCond_ne, gr_ireturn, gr_iinc, gr_goto, gr_arraylength, gr_iastore, gr_dup, pA_i, pA_r, fm_2_6, gr_iadd, NI_14, ia_14, ln_14, al_14, gr_nil, pI_c, pR_c, oI_c, oR_c, lg_i, lg_l, lg_r, lg_n, kI_p, kI_m, lk_0, lk_s, ar_n, ar_c, if_true, if_false, List.replicate, Nat.reduceAdd, Nat.reduceSub, Nat.reduceLeDiff, Nat.reduceEqDiff, Nat.reduceLT, reduceIte, true_and, and_true, true_implies, false_implies, implies_true, eq_self, not_true_eq_false, not_false_eq_true, Bool.false_eq_true, reduceCtorEq, forall_const, List.headD_cons, Nat.zero_add, true_or, or_true, ne_eq, false_and, and_false, false_or, or_false, Nat.reduceBEq, Bool.false_and, Bool.and_false, Bool.or_false, Bool.false_or, Bool.and_self, Bool.true_and, Bool.and_true, Bool.or_self, z10, z01, zm0, nz1, nz0, cnt0, h6])
          refine ⟨fun _ => ?_, fun h => absurd (nI_le (by omega) (by omega)) h⟩
          (refine rb_N_takeRains_5 ?_; simp only [bk_N_takeRains_5, gr_aloadn, gr_iconst, gr_putfield, fk_2_6, iz_2_6, NI_2, gr_getfield, fm_2_1, gr_invokestatic, ps_0, ps_s, pu_n, pu_s, ct_0, ct_i, ct_l, ct_r, gr_istoren, st1, clr_0, clr_s, sk_0, sk_s, gr_iloadn, fm_6_1, NI_6, gr_ificmp_ge, gr_invokevirtual, gr_bipush, gr_isub, gr_ifCond_ne, gr_ireturn, gr_iinc, gr_goto, gr_arraylength, gr_iastore, gr_dup, pA_i, pA_r, fm_2_6, gr_iadd, NI_14, ia_14, ln_14, al_14, gr_nil, pI_c, pR_c, oI_c, oR_c, lg_i, lg_l, lg_r, lg_n, kI_p, kI_m, lk_0, lk_s, ar_n, ar_c, if_true, if_false, List.replicate, Nat.reduceAdd, Nat.reduceSub, Nat.reduceLeDiff, Nat.reduceEqDiff, Nat.reduceLT, reduceIte, true_and, and_true, true_implies, false_implies, implies_true, eq_self, not_true_eq_false, not_false_eq_true, Bool.false_eq_true, reduceCtorEq, forall_const, List.headD_cons, Nat.zero_add, true_or, or_true, ne_eq, false_and, and_false, false_or, or_false, Nat.reduceBEq, Bool.false_and, Bool.and_false, Bool.or_false, Bool.false_or, Bool.and_self, Bool.true_and, Bool.and_true, Bool.or_self, z10, z01, zm0, nz1, nz0, cnt0])
          rw [← he] at hq
          refine hq v ⟨fun a ha => ?_, by rw [hc, rCnt, if_pos he.symm]; congr 1⟩ hs
          rw [hv a ha]
          split
          · rfl
          · rw [hr, List.getElem?_eq_none (by omega)]
        | succ n ih =>
          intro j v hj hv hc hs
          have htx := tx v hs
          have h6 := htx.1
          obtain ⟨b, hb⟩ : ∃ b, bs[j]? = some b := ⟨bs[j]'(by omega), by simp⟩
          have hok := rFault_ok bs 0 he.symm j b hb
          have hrb := htx.2.2.1 j b hb
          (refine rb_N_takeRains_4 ?_; simp only [bk_N_takeRains_4, gr_aloadn, gr_iconst, gr_putfield, fk_2_6, iz_2_6, NI_2, gr_getfield, fm_2_1, gr_invokestatic, ps_0, ps_s, pu_n, pu_s, ct_0, ct_i, ct_l, ct_r, gr_istoren, st1, clr_0, clr_s, sk_0, sk_s, gr_iloadn, fm_6_1, NI_6, gr_ificmp_ge, gr_invokevirtual, gr_bipush, gr_isub, gr_ifCond_ne, gr_ireturn, gr_iinc, gr_goto, gr_arraylength, gr_iastore, gr_dup, pA_i, pA_r, fm_2_6, gr_iadd, NI_14, ia_14, ln_14, al_14, gr_nil, pI_c, pR_c, oI_c, oR_c, lg_i, lg_l, lg_r, lg_n, kI_p, kI_m, lk_0, lk_s, ar_n, ar_c, if_true, if_false, List.replicate, Nat.reduceAdd, Nat.reduceSub, Nat.reduceLeDiff, Nat.reduceEqDiff, Nat.reduceLT, reduceIte, true_and, and_true, true_implies, false_implies, implies_true, eq_self, not_true_eq_false, not_false_eq_true, Bool.false_eq_true, reduceCtorEq, forall_const, List.headD_cons, Nat.zero_add, true_or, or_true, ne_eq, false_and, and_false, false_or, or_false, Nat.reduceBEq, Bool.false_and, Bool.and_false, Bool.or_false, Bool.false_or, Bool.and_self, Bool.true_and, Bool.and_true, Bool.or_self, z10, z01, zm0, nz1, nz0, cnt0, h6])
          simp (disch := omega) only [nI_leI, nI_ltI, nI_eq, nI_add, pk_mul, nI_clamp, vp_nI, nI_lt0, nI_ge0, nI_eq0, nI_gt0, nI_le0, nI_neg1, neg1_nI, Nat.not_le, Nat.not_lt, if_true, if_false, true_and, and_true, true_implies, false_implies, implies_true, not_true_eq_false, not_false_eq_true, reduceIte, false_or, or_false, false_and, and_false, true_or, or_true]
          (repeat' first | with_reducible intro _ | with_reducible apply And.intro) <;> try omega
          refine c_X_byteAt (by omega) h6 (by omega) htx.2.1 ?_
          simp only [gr_aloadn, gr_iconst, gr_putfield, fk_2_6, iz_2_6, NI_2, gr_getfield, fm_2_1, gr_invokestatic, ps_0, ps_s, pu_n, pu_s, ct_0, ct_i, ct_l, ct_r, gr_istoren, st1, clr_0, clr_s, sk_0, sk_s, gr_iloadn, fm_6_1, NI_6, gr_ificmp_ge, gr_invokevirtual, gr_bipush, gr_isub, gr_ifCond_ne, gr_ireturn, gr_iinc, gr_goto, gr_arraylength, gr_iastore, gr_dup, pA_i, pA_r, fm_2_6, gr_iadd, NI_14, ia_14, ln_14, al_14, gr_nil, pI_c, pR_c, oI_c, oR_c, lg_i, lg_l, lg_r, lg_n, kI_p, kI_m, lk_0, lk_s, ar_n, ar_c, if_true, if_false, List.replicate, Nat.reduceAdd, Nat.reduceSub, Nat.reduceLeDiff, Nat.reduceEqDiff, Nat.reduceLT, reduceIte, true_and, and_true, true_implies, false_implies, implies_true, eq_self, not_true_eq_false, not_false_eq_true, Bool.false_eq_true, reduceCtorEq, forall_const, List.headD_cons, Nat.zero_add, true_or, or_true, ne_eq, false_and, and_false, false_or, or_false, Nat.reduceBEq, Bool.false_and, Bool.and_false, Bool.or_false, Bool.false_or, Bool.and_self, Bool.true_and, Bool.and_true, Bool.or_self, z10, z01, zm0, nz1, nz0, cnt0, rd_wr, hc, hrb]
          rw [pk_sub hok.1]
          simp (disch := omega) only [nI_leI, nI_ltI, nI_eq, nI_add, pk_mul, nI_clamp, vp_nI, nI_lt0, nI_ge0, nI_eq0, nI_gt0, nI_le0, nI_neg1, neg1_nI, Nat.not_le, Nat.not_lt, if_true, if_false, true_and, and_true, true_implies, false_implies, implies_true, not_true_eq_false, not_false_eq_true, reduceIte, false_or, or_false, false_and, and_false, true_or, or_true]
          refine ⟨by omega, ?_⟩
          refine ih (j + 1) _ (by omega) (fun a ha => ?_) (by simp [rd_wr]) ((hs.wr _ (Or.inl ⟨rfl, rfl⟩)).wr _ (Or.inr ⟨rfl, rfl, rfl⟩))
          simp only [rd_wr, Nat.reduceEqDiff, false_and, if_false, true_and]
          by_cases e : a = j
          · subst e
            rw [if_pos rfl, if_pos (by omega), hr, hb]
          · rw [if_neg e, hv a ha]
            by_cases e2 : a < j
            · rw [if_pos e2, if_pos (by omega)]
            · rw [if_neg e2, if_neg (by omega)]
      exact loop2 bs.length 0 v0 (by omega) (fun a ha => by rw [if_neg (by omega)]; exact h140 a ha) h60 hs0'
    | cons b rest ih =>
      intro i hd hi he
      obtain ⟨hi', hbi, hd'⟩ := drop_facts hd
      have hb256 := htx.2.2.2 b (List.mem_of_getElem? hbi)
      have hrb := htx.2.2.1 i b hbi
      simp only [rFault] at he
      (refine rb_N_takeRains_1 ?_; simp only [bk_N_takeRains_1, gr_aloadn, gr_iconst, gr_putfield, fk_2_6, iz_2_6, NI_2, gr_getfield, fm_2_1, gr_invokestatic, ps_0, ps_s, pu_n, pu_s, ct_0, ct_i, ct_l, ct_r, gr_istoren, st1, clr_0, clr_s, sk_0, sk_s, gr_iloadn, fm_6_1, NI_6, gr_ificmp_ge, gr_invokevirtual, gr_bipush, gr_isub, gr_ifCond_ne, gr_ireturn, gr_iinc, gr_goto, gr_arraylength, gr_iastore, gr_dup, pA_i, pA_r, fm_2_6, gr_iadd, NI_14, ia_14, ln_14, al_14, gr_nil, pI_c, pR_c, oI_c, oR_c, lg_i, lg_l, lg_r, lg_n, kI_p, kI_m, lk_0, lk_s, ar_n, ar_c, if_true, if_false, List.replicate, Nat.reduceAdd, Nat.reduceSub, Nat.reduceLeDiff, Nat.reduceEqDiff, Nat.reduceLT, reduceIte, true_and, and_true, true_implies, false_implies, implies_true, eq_self, not_true_eq_false, not_false_eq_true, Bool.false_eq_true, reduceCtorEq, forall_const, List.headD_cons, Nat.zero_add, true_or, or_true, ne_eq, false_and, and_false, false_or, or_false, Nat.reduceBEq, Bool.false_and, Bool.and_false, Bool.or_false, Bool.false_or, Bool.and_self, Bool.true_and, Bool.and_true, Bool.or_self, z10, z01, zm0, nz1, nz0, cnt0, h6])
      refine ⟨fun h => absurd h (nI_ge (by omega) (by omega)), fun _ => ?_⟩
      refine c_X_byteAt (by omega) h6 hi' htx.2.1 ?_
      rw [hrb]
      simp only [gr_aloadn, gr_iconst, gr_putfield, fk_2_6, iz_2_6, NI_2, gr_getfield, fm_2_1, gr_invokestatic, ps_0, ps_s, pu_n, pu_s, ct_0, ct_i, ct_l, ct_r, gr_istoren, st1, clr_0, clr_s, sk_0, sk_s, gr_iloadn, fm_6_1, NI_6, gr_ificmp_ge, gr_invokevirtual, gr_bipush, gr_isub, gr_ifCond_ne, gr_ireturn, gr_iinc, gr_goto, gr_arraylength, gr_iastore, gr_dup, pA_i, pA_r, fm_2_6, gr_iadd, NI_14, ia_14, ln_14, al_14, gr_nil, pI_c, pR_c, oI_c, oR_c, lg_i, lg_l, lg_r, lg_n, kI_p, kI_m, lk_0, lk_s, ar_n, ar_c, if_true, if_false, List.replicate, Nat.reduceAdd, Nat.reduceSub, Nat.reduceLeDiff, Nat.reduceEqDiff, Nat.reduceLT, reduceIte, true_and, and_true, true_implies, false_implies, implies_true, eq_self, not_true_eq_false, not_false_eq_true, Bool.false_eq_true, reduceCtorEq, forall_const, List.headD_cons, Nat.zero_add, true_or, or_true, ne_eq, false_and, and_false, false_or, or_false, Nat.reduceBEq, Bool.false_and, Bool.and_false, Bool.or_false, Bool.false_or, Bool.and_self, Bool.true_and, Bool.and_true, Bool.or_self, z10, z01, zm0, nz1, nz0, cnt0]
      have bad : ¬ (48 ≤ b ∧ b ≤ 57) → Q (some (.inl (nI i))) v0 := by
        intro hb
        rw [if_neg hb] at he
        rw [← he] at hq
        refine hq v0 ⟨fun a ha => ?_, ?_⟩ hs0'
        · rw [h140 a ha, rRain, if_neg (by rw [← he]; simp)]
        · rw [h60, rCnt, if_neg (by rw [← he]; simp)]
      rcases sub_cs b 48 (by omega) (by omega) with ⟨hc, e⟩ | ⟨hc, e⟩
      · rw [e]
        refine c_W_isBelow (fun _ h => ?_) (fun h => ?_)
        · simp (disch := omega) only [nI_leI, nI_ltI, nI_eq, nI_add, pk_mul, nI_clamp, vp_nI, nI_lt0, nI_ge0, nI_eq0, nI_gt0, nI_le0, nI_neg1, neg1_nI, Nat.not_le, Nat.not_lt, if_true, if_false, true_and, and_true, true_implies, false_implies, implies_true, not_true_eq_false, not_false_eq_true, reduceIte, false_or, or_false, false_and, and_false, true_or, or_true] at h
          simp only [gr_aloadn, gr_iconst, gr_putfield, fk_2_6, iz_2_6, NI_2, gr_getfield, fm_2_1, gr_invokestatic, ps_0, ps_s, pu_n, pu_s, ct_0, ct_i, ct_l, ct_r, gr_istoren, st1, clr_0, clr_s, sk_0, sk_s, gr_iloadn, fm_6_1, NI_6, gr_ificmp_ge, gr_invokevirtual, gr_bipush, gr_isub, gr_ifCond_ne, gr_ireturn, gr_iinc, gr_goto, gr_arraylength, gr_iastore, gr_dup, pA_i, pA_r, fm_2_6, gr_iadd, NI_14, ia_14, ln_14, al_14, gr_nil, pI_c, pR_c, oI_c, oR_c, lg_i, lg_l, lg_r, lg_n, kI_p, kI_m, lk_0, lk_s, ar_n, ar_c, if_true, if_false, List.replicate, Nat.reduceAdd, Nat.reduceSub, Nat.reduceLeDiff, Nat.reduceEqDiff, Nat.reduceLT, reduceIte, true_and, and_true, true_implies, false_implies, implies_true, eq_self, not_true_eq_false, not_false_eq_true, Bool.false_eq_true, reduceCtorEq, forall_const, List.headD_cons, Nat.zero_add, true_or, or_true, ne_eq, false_and, and_false, false_or, or_false, Nat.reduceBEq, Bool.false_and, Bool.and_false, Bool.or_false, Bool.false_or, Bool.and_self, Bool.true_and, Bool.and_true, Bool.or_self, z10, z01, zm0, nz1, nz0, cnt0]
          rw [if_pos ⟨by omega, by omega⟩] at he
          (refine rb_N_takeRains_2 ?_; simp only [bk_N_takeRains_2, gr_aloadn, gr_iconst, gr_putfield, fk_2_6, iz_2_6, NI_2, gr_getfield, fm_2_1, gr_invokestatic, ps_0, ps_s, pu_n, pu_s, ct_0, ct_i, ct_l, ct_r, gr_istoren, st1, clr_0, clr_s, sk_0, sk_s, gr_iloadn, fm_6_1, NI_6, gr_ificmp_ge, gr_invokevirtual, gr_bipush, gr_isub, gr_ifCond_ne, gr_ireturn, gr_iinc, gr_goto, gr_arraylength, gr_iastore, gr_dup, pA_i, pA_r, fm_2_6, gr_iadd, NI_14, ia_14, ln_14, al_14, gr_nil, pI_c, pR_c, oI_c, oR_c, lg_i, lg_l, lg_r, lg_n, kI_p, kI_m, lk_0, lk_s, ar_n, ar_c, if_true, if_false, List.replicate, Nat.reduceAdd, Nat.reduceSub, Nat.reduceLeDiff, Nat.reduceEqDiff, Nat.reduceLT, reduceIte, true_and, and_true, true_implies, false_implies, implies_true, eq_self, not_true_eq_false, not_false_eq_true, Bool.false_eq_true, reduceCtorEq, forall_const, List.headD_cons, Nat.zero_add, true_or, or_true, ne_eq, false_and, and_false, false_or, or_false, Nat.reduceBEq, Bool.false_and, Bool.and_false, Bool.or_false, Bool.false_or, Bool.and_self, Bool.true_and, Bool.and_true, Bool.or_self, z10, z01, zm0, nz1, nz0, cnt0])
          rw [nI_add]
          exact ih (i + 1) hd' (by omega) he
        · simp (disch := omega) only [nI_leI, nI_ltI, nI_eq, nI_add, pk_mul, nI_clamp, vp_nI, nI_lt0, nI_ge0, nI_eq0, nI_gt0, nI_le0, nI_neg1, neg1_nI, Nat.not_le, Nat.not_lt, if_true, if_false, true_and, and_true, true_implies, false_implies, implies_true, not_true_eq_false, not_false_eq_true, reduceIte, false_or, or_false, false_and, and_false, true_or, or_true] at h
          simp only [gr_aloadn, gr_iconst, gr_putfield, fk_2_6, iz_2_6, NI_2, gr_getfield, fm_2_1, gr_invokestatic, ps_0, ps_s, pu_n, pu_s, ct_0, ct_i, ct_l, ct_r, gr_istoren, st1, clr_0, clr_s, sk_0, sk_s, gr_iloadn, fm_6_1, NI_6, gr_ificmp_ge, gr_invokevirtual, gr_bipush, gr_isub, gr_ifCond_ne, gr_ireturn, gr_iinc, gr_goto, gr_arraylength, gr_iastore, gr_dup, pA_i, pA_r, fm_2_6, gr_iadd, NI_14, ia_14, ln_14, al_14, gr_nil, pI_c, pR_c, oI_c, oR_c, lg_i, lg_l, lg_r, lg_n, kI_p, kI_m, lk_0, lk_s, ar_n, ar_c, if_true, if_false, List.replicate, Nat.reduceAdd, Nat.reduceSub, Nat.reduceLeDiff, Nat.reduceEqDiff, Nat.reduceLT, reduceIte, true_and, and_true, true_implies, false_implies, implies_true, eq_self, not_true_eq_false, not_false_eq_true, Bool.false_eq_true, reduceCtorEq, forall_const, List.headD_cons, Nat.zero_add, true_or, or_true, ne_eq, false_and, and_false, false_or, or_false, Nat.reduceBEq, Bool.false_and, Bool.and_false, Bool.or_false, Bool.false_or, Bool.and_self, Bool.true_and, Bool.and_true, Bool.or_self, z10, z01, zm0, nz1, nz0, cnt0]
          exact bad (by omega)
      · refine c_W_isBelow (fun h => absurd e h) (fun h => ?_)
        simp only [gr_aloadn, gr_iconst, gr_putfield, fk_2_6, iz_2_6, NI_2, gr_getfield, fm_2_1, gr_invokestatic, ps_0, ps_s, pu_n, pu_s, ct_0, ct_i, ct_l, ct_r, gr_istoren, st1, clr_0, clr_s, sk_0, sk_s, gr_iloadn, fm_6_1, NI_6, gr_ificmp_ge, gr_invokevirtual, gr_bipush, gr_isub, gr_ifCond_ne, gr_ireturn, gr_iinc, gr_goto, gr_arraylength, gr_iastore, gr_dup, pA_i, pA_r, fm_2_6, gr_iadd, NI_14, ia_14, ln_14, al_14, gr_nil, pI_c, pR_c, oI_c, oR_c, lg_i, lg_l, lg_r, lg_n, kI_p, kI_m, lk_0, lk_s, ar_n, ar_c, if_true, if_false, List.replicate, Nat.reduceAdd, Nat.reduceSub, Nat.reduceLeDiff, Nat.reduceEqDiff, Nat.reduceLT, reduceIte, true_and, and_true, true_implies, false_implies, implies_true, eq_self, not_true_eq_false, not_false_eq_true, Bool.false_eq_true, reduceCtorEq, forall_const, List.headD_cons, Nat.zero_add, true_or, or_true, ne_eq, false_and, and_false, false_or, or_false, Nat.reduceBEq, Bool.false_and, Bool.and_false, Bool.or_false, Bool.false_or, Bool.and_self, Bool.true_and, Bool.and_true, Bool.or_self, z10, z01, zm0, nz1, nz0, cnt0]
        exact bad (by omega)
  exact loop bs 0 rfl (by omega) rfl
set_option maxHeartbeats 4000000 in
set_option maxRecDepth 100000 in
theorem c_N_takeLaw {d : Nat} {bs : List Nat} {u : Mem} {Q : Option MV → Mem → Prop} (ht : Tx u 2 bs) (hq : ∀ v, Lw v (lLaw bs) (lCnt bs) → Sm (fun c i j => (c = 15 ∧ i = 0) ∨ (c = 2 ∧ i = 0 ∧ j = 7)) u v → Q (some (.inl (flt (lFault bs 0)))) v) : OKm (d + 3) g_N_takeLaw [.inr (.inr (2, 0)), .inr (.inr (6, 2))] u Q := by
  have hsz : bs.length ≤ 6 := ht.2.1
  have tx : ∀ v, Sm (fun c i j => (c = 15 ∧ i = 0) ∨ (c = 2 ∧ i = 0 ∧ j = 7)) u v → Tx v 2 bs := fun v hs => ht.keep fun j => ⟨hs.1 _ _ _ (by rintro (h | h) <;> omega), hs.1 _ _ _ (by rintro (h | h) <;> omega)⟩
  (refine en_N_takeLaw _ (Nat.le_of_ble_eq_true rfl) (rb_N_takeLaw_0 ?_); simp only [bk_N_takeLaw_0, gr_aloadn, gr_iconst, gr_putfield, fk_2_7, iz_2_7, NI_2, gr_getfield, fm_2_2, gr_invokestatic, ps_0, ps_s, pu_n, pu_s, ct_0, ct_i, ct_l, ct_r, gr_istoren, st1, clr_0, clr_s, sk_0, sk_s, gr_iloadn, fm_6_1, NI_6, gr_ificmp_ge, gr_invokevirtual, gr_bipush, gr_ificmp_eq, gr_isub, gr_ifCond_ne, gr_ireturn, gr_iinc, gr_goto, gr_arraylength, gr_iastore, gr_dup, pA_i, pA_r, fm_2_7, gr_iadd, NI_15, ia_15, ln_15, al_15, gr_nil, pI_c, pR_c, oI_c, oR_c, lg_i, lg_l, lg_r, lg_n, kI_p, kI_m, lk_0, lk_s, ar_n, ar_c, if_true, if_false, List.replicate, Nat.reduceAdd, Nat.reduceSub, Nat.reduceLeDiff, Nat.reduceEqDiff, Nat.reduceLT, reduceIte, true_and, and_true, true_implies, false_implies, implies_true, eq_self, not_true_eq_false, not_false_eq_true, Bool.false_eq_true, reduceCtorEq, forall_const, List.headD_cons, Nat.zero_add, true_or, or_true, ne_eq, false_and, and_false, false_or, or_false, Nat.reduceBEq, Bool.false_and, Bool.and_false, Bool.or_false, Bool.false_or, Bool.and_self, Bool.true_and, Bool.and_true, Bool.or_self, z10, z01, zm0, nz1, nz0, cnt0])
  refine c_J_fill rfl (by decide) (by decide) (fun v0 hf0 hs0 => ?_)
  simp only [gr_aloadn, gr_iconst, gr_putfield, fk_2_7, iz_2_7, NI_2, gr_getfield, fm_2_2, gr_invokestatic, ps_0, ps_s, pu_n, pu_s, ct_0, ct_i, ct_l, ct_r, gr_istoren, st1, clr_0, clr_s, sk_0, sk_s, gr_iloadn, fm_6_1, NI_6, gr_ificmp_ge, gr_invokevirtual, gr_bipush, gr_ificmp_eq, gr_isub, gr_ifCond_ne, gr_ireturn, gr_iinc, gr_goto, gr_arraylength, gr_iastore, gr_dup, pA_i, pA_r, fm_2_7, gr_iadd, NI_15, ia_15, ln_15, al_15, gr_nil, pI_c, pR_c, oI_c, oR_c, lg_i, lg_l, lg_r, lg_n, kI_p, kI_m, lk_0, lk_s, ar_n, ar_c, if_true, if_false, List.replicate, Nat.reduceAdd, Nat.reduceSub, Nat.reduceLeDiff, Nat.reduceEqDiff, Nat.reduceLT, reduceIte, true_and, and_true, true_implies, false_implies, implies_true, eq_self, not_true_eq_false, not_false_eq_true, Bool.false_eq_true, reduceCtorEq, forall_const, List.headD_cons, Nat.zero_add, true_or, or_true, ne_eq, false_and, and_false, false_or, or_false, Nat.reduceBEq, Bool.false_and, Bool.and_false, Bool.or_false, Bool.false_or, Bool.and_self, Bool.true_and, Bool.and_true, Bool.or_self, z10, z01, zm0, nz1, nz0, cnt0]
  have hs0' : Sm (fun c i j => (c = 15 ∧ i = 0) ∨ (c = 2 ∧ i = 0 ∧ j = 7)) u v0 := (Sm.rf.wr _ (Or.inr ⟨rfl, rfl, rfl⟩)).tr (hs0.wk fun c i j hc => Or.inl hc)
  have h70 : rd v0 2 0 7 = nI 0 := by rw [hs0.1 _ _ _ (by rintro ⟨h, -⟩; omega)]; simp [rd_wr]
  have h150 : ∀ a, a < 6 → rd v0 15 0 a = -nI 1 := fun a ha => hf0 a ha
  have htx := tx v0 hs0'
  have h6 := htx.1
  have loop : ∀ (rest : List Nat) (i : Nat) (y : Option MV), bs.drop i = rest → i ≤ bs.length → lFault rest i = lFault bs 0 → RunB (d + 3) Y_N_takeLaw 1 [some (.inr (.inr (2, 0))), some (.inr (.inr (6, 2))), some (.inl (nI i)), y] [] v0 Q := by
    intro rest
    induction rest with
    | nil =>
      intro i y hd hi he
      have hi' := drop_nil hd hi
      (refine rb_N_takeLaw_1 ?_; simp only [bk_N_takeLaw_1, gr_aloadn, gr_iconst, gr_putfield, fk_2_7, iz_2_7, NI_2, gr_getfield, fm_2_2, gr_invokestatic, ps_0, ps_s, pu_n, pu_s, ct_0, ct_i, ct_l, ct_r, gr_istoren, st1, clr_0, clr_s, sk_0, sk_s, gr_iloadn, fm_6_1, NI_6, gr_ificmp_ge, gr_invokevirtual, gr_bipush, gr_ificmp_eq, gr_isub, gr_ifCond_ne, gr_ireturn, gr_iinc, gr_goto, gr_arraylength, gr_iastore, gr_dup, pA_i, pA_r, fm_2_7, gr_iadd, NI_15, ia_15, ln_15, al_15, gr_nil, pI_c, pR_c, oI_c, oR_c, lg_i, lg_l, lg_r, lg_n, kI_p, kI_m, lk_0, lk_s, ar_n, ar_c, if_true, if_false, List.replicate, Nat.reduceAdd, Nat.reduceSub, Nat.reduceLeDiff, Nat.reduceEqDiff, Nat.reduceLT, reduceIte, true_and, and_true, true_implies, false_implies, implies_true, eq_self, not_true_eq_false, not_false_eq_true, Bool.false_eq_true, reduceCtorEq, forall_const, List.headD_cons, Nat.zero_add, true_or, or_true, ne_eq, false_and, and_false, false_or, or_false, Nat.reduceBEq, Bool.false_and, Bool.and_false, Bool.or_false, Bool.false_or, Bool.and_self, Bool.true_and, Bool.and_true, Bool.or_self, z10, z01, zm0, nz1, nz0, cnt0, h6])
      refine ⟨fun _ => ?_, fun h => absurd (nI_le (by omega) (by omega)) h⟩
      (refine rb_N_takeLaw_3 ?_; simp only [bk_N_takeLaw_3, gr_aloadn, gr_iconst, gr_putfield, fk_2_7, iz_2_7, NI_2, gr_getfield, fm_2_2, gr_invokestatic, ps_0, ps_s, pu_n, pu_s, ct_0, ct_i, ct_l, ct_r, gr_istoren, st1, clr_0, clr_s, sk_0, sk_s, gr_iloadn, fm_6_1, NI_6, gr_ificmp_ge, gr_invokevirtual, gr_bipush, gr_ificmp_eq, gr_isub, gr_ifCond_ne, gr_ireturn, gr_iinc, gr_goto, gr_arraylength, gr_iastore, gr_dup, pA_i, pA_r, fm_2_7, gr_iadd, NI_15, ia_15, ln_15, al_15, gr_nil, pI_c, pR_c, oI_c, oR_c, lg_i, lg_l, lg_r, lg_n, kI_p, kI_m, lk_0, lk_s, ar_n, ar_c, if_true, if_false, List.replicate, Nat.reduceAdd, Nat.reduceSub, Nat.reduceLeDiff, Nat.reduceEqDiff, Nat.reduceLT, reduceIte, true_and, and_true, true_implies, false_implies, implies_true, eq_self, not_true_eq_false, not_false_eq_true, Bool.false_eq_true, reduceCtorEq, forall_const, List.headD_cons, Nat.zero_add, true_or, or_true, ne_eq, false_and, and_false, false_or, or_false, Nat.reduceBEq, Bool.false_and, Bool.and_false, Bool.or_false, Bool.false_or, Bool.and_self, Bool.true_and, Bool.and_true, Bool.or_self, z10, z01, zm0, nz1, nz0, cnt0])
      simp only [lFault] at he
      have hr : ∀ a, lLaw bs a = lLet bs a := fun a => by unfold lLaw; rw [if_pos he.symm]
      have loop2 : ∀ (n j : Nat) (v : Mem) (y : Option MV), j + n = bs.length → (∀ a, a < 6 → rd v 15 0 a = if a < j then lLet bs a else -nI 1) → rd v 2 0 7 = nI (lCntN bs j) → Sm (fun c i j => (c = 15 ∧ i = 0) ∨ (c = 2 ∧ i = 0 ∧ j = 7)) u v → RunB (d + 3) Y_N_takeLaw 4 [some (.inr (.inr (2, 0))), some (.inr (.inr (6, 2))), some (.inl (nI j)), y] [] v Q := by
        intro n
        induction n with
        | zero =>
          intro j v y hj hv hc hs
          have h6 := (tx v hs).1
          (refine rb_N_takeLaw_4 ?_; simp only [bk_N_takeLaw_4, gr_aloadn, gr_iconst, gr_putfield, fk_2_7, iz_2_7, NI_2, gr_getfield, fm_2_2, gr_invokestatic, ps_0, ps_s, pu_n, pu_s, ct_0, ct_i, ct_l, ct_r, gr_istoren, st1, clr_0, clr_s, sk_0, sk_s, gr_iloadn, fm_6_1, NI_6, gr_ificmp_ge, gr_invokevirtual, gr_bipush, gr_ificmp_eq, gr_isub, gr_ifCond_ne, gr_ireturn, gr_iinc, gr_goto, gr_arraylength, gr_iastore, gr_dup, pA_i, pA_r, fm_2_7, gr_iadd, NI_15, ia_15, ln_15, al_15, gr_nil, pI_c, pR_c, oI_c, oR_c, lg_i, lg_l, lg_r, lg_n, kI_p, kI_m, lk_0, lk_s, ar_n, ar_c, if_true, if_false, List.replicate, Nat.reduceAdd, Nat.reduceSub, Nat.reduceLeDiff, Nat.reduceEqDiff, Nat.reduceLT, reduceIte, true_and, and_true, true_implies, false_implies, implies_true, eq_self, not_true_eq_false, not_false_eq_true, Bool.false_eq_true, reduceCtorEq, forall_const, List.headD_cons, Nat.zero_add, true_or, or_true, ne_eq, false_and, and_false, false_or, or_false, Nat.reduceBEq, Bool.false_and, Bool.and_false, Bool.or_false, Bool.false_or, Bool.and_self, Bool.true_and, Bool.and_true, Bool.or_self, z10, z01, zm0, nz1, nz0, cnt0, h6])
          refine ⟨fun _ => ?_, fun h => absurd (nI_le (by omega) (by omega)) h⟩
          (refine rb_N_takeLaw_6 ?_; simp only [bk_N_takeLaw_6, gr_aloadn, gr_iconst, gr_putfield, fk_2_7, iz_2_7, NI_2, gr_getfield, fm_2_2, gr_invokestatic, ps_0, ps_s, pu_n, pu_s, ct_0, ct_i, ct_l, ct_r, gr_istoren, st1, clr_0, clr_s, sk_0, sk_s, gr_iloadn, fm_6_1, NI_6, gr_ificmp_ge, gr_invokevirtual, gr_bipush, gr_ificmp_eq, gr_isub, gr_ifCond_ne, gr_ireturn, gr_iinc, gr_goto, gr_arraylength, gr_iastore, gr_dup, pA_i, pA_r, fm_2_7, gr_iadd, NI_15, ia_15, ln_15, al_15, gr_nil, pI_c, pR_c, oI_c, oR_c, lg_i, lg_l, lg_r, lg_n, kI_p, kI_m, lk_0, lk_s, ar_n, ar_c, if_true, if_false, List.replicate, Nat.reduceAdd, Nat.reduceSub, Nat.reduceLeDiff, Nat.reduceEqDiff, Nat.reduceLT, reduceIte, true_and, and_true, true_implies, false_implies, implies_true, eq_self, not_true_eq_false, not_false_eq_true, Bool.false_eq_true, reduceCtorEq, forall_const, List.headD_cons, Nat.zero_add, true_or, or_true, ne_eq, false_and, and_false, false_or, or_false, Nat.reduceBEq, Bool.false_and, Bool.and_false, Bool.or_false, Bool.false_or, Bool.and_self, Bool.true_and, Bool.and_true, Bool.or_self, z10, z01, zm0, nz1, nz0, cnt0])
          rw [← he] at hq
          have hjl : j = bs.length := by omega
          refine hq v ⟨fun a ha => ?_, ?_, ?_⟩ hs
          · rw [hv a ha]
            split
            · exact (hr a).symm
            · rw [hr, lLet, List.getElem?_eq_none (by omega)]
          · rw [hc, lCnt, if_pos he.symm, lCntN_eq bs 6 hsz, hjl]
          · unfold lCnt; split
            · exact lCntN_le bs 6
            · omega
        | succ n ih =>
          intro j v y hj hv hc hs
          have htx := tx v hs
          have h6 := htx.1
          obtain ⟨b, hb⟩ : ∃ b, bs[j]? = some b := ⟨bs[j]'(by omega), by simp⟩
          have hok := lFault_ok bs 0 he.symm j b hb
          have hrb := htx.2.2.1 j b hb
          have hlb : lLet bs j = if b = 46 then -nI 1 else nI (b - 97) := by simp [lLet, hb]
          (refine rb_N_takeLaw_4 ?_; simp only [bk_N_takeLaw_4, gr_aloadn, gr_iconst, gr_putfield, fk_2_7, iz_2_7, NI_2, gr_getfield, fm_2_2, gr_invokestatic, ps_0, ps_s, pu_n, pu_s, ct_0, ct_i, ct_l, ct_r, gr_istoren, st1, clr_0, clr_s, sk_0, sk_s, gr_iloadn, fm_6_1, NI_6, gr_ificmp_ge, gr_invokevirtual, gr_bipush, gr_ificmp_eq, gr_isub, gr_ifCond_ne, gr_ireturn, gr_iinc, gr_goto, gr_arraylength, gr_iastore, gr_dup, pA_i, pA_r, fm_2_7, gr_iadd, NI_15, ia_15, ln_15, al_15, gr_nil, pI_c, pR_c, oI_c, oR_c, lg_i, lg_l, lg_r, lg_n, kI_p, kI_m, lk_0, lk_s, ar_n, ar_c, if_true, if_false, List.replicate, Nat.reduceAdd, Nat.reduceSub, Nat.reduceLeDiff, Nat.reduceEqDiff, Nat.reduceLT, reduceIte, true_and, and_true, true_implies, false_implies, implies_true, eq_self, not_true_eq_false, not_false_eq_true, Bool.false_eq_true, reduceCtorEq, forall_const, List.headD_cons, Nat.zero_add, true_or, or_true, ne_eq, false_and, and_false, false_or, or_false, Nat.reduceBEq, Bool.false_and, Bool.and_false, Bool.or_false, Bool.false_or, Bool.and_self, Bool.true_and, Bool.and_true, Bool.or_self, z10, z01, zm0, nz1, nz0, cnt0, h6])
          simp (disch := omega) only [nI_leI, nI_ltI, nI_eq, nI_add, pk_mul, nI_clamp, vp_nI, nI_lt0, nI_ge0, nI_eq0, nI_gt0, nI_le0, nI_neg1, neg1_nI, Nat.not_le, Nat.not_lt, if_true, if_false, true_and, and_true, true_implies, false_implies, implies_true, not_true_eq_false, not_false_eq_true, reduceIte, false_or, or_false, false_and, and_false, true_or, or_true]
          (repeat' first | with_reducible intro _ | with_reducible apply And.intro) <;> try omega
          refine c_X_byteAt (by omega) h6 (by omega) htx.2.1 ?_
          simp only [gr_aloadn, gr_iconst, gr_putfield, fk_2_7, iz_2_7, NI_2, gr_getfield, fm_2_2, gr_invokestatic, ps_0, ps_s, pu_n, pu_s, ct_0, ct_i, ct_l, ct_r, gr_istoren, st1, clr_0, clr_s, sk_0, sk_s, gr_iloadn, fm_6_1, NI_6, gr_ificmp_ge, gr_invokevirtual, gr_bipush, gr_ificmp_eq, gr_isub, gr_ifCond_ne, gr_ireturn, gr_iinc, gr_goto, gr_arraylength, gr_iastore, gr_dup, pA_i, pA_r, fm_2_7, gr_iadd, NI_15, ia_15, ln_15, al_15, gr_nil, pI_c, pR_c, oI_c, oR_c, lg_i, lg_l, lg_r, lg_n, kI_p, kI_m, lk_0, lk_s, ar_n, ar_c, if_true, if_false, List.replicate, Nat.reduceAdd, Nat.reduceSub, Nat.reduceLeDiff, Nat.reduceEqDiff, Nat.reduceLT, reduceIte, true_and, and_true, true_implies, false_implies, implies_true, eq_self, not_true_eq_false, not_false_eq_true, Bool.false_eq_true, reduceCtorEq, forall_const, List.headD_cons, Nat.zero_add, true_or, or_true, ne_eq, false_and, and_false, false_or, or_false, Nat.reduceBEq, Bool.false_and, Bool.and_false, Bool.or_false, Bool.false_or, Bool.and_self, Bool.true_and, Bool.and_true, Bool.or_self, z10, z01, zm0, nz1, nz0, cnt0, rd_wr, hc, hrb]
          simp (disch := omega) only [nI_leI, nI_ltI, nI_eq, nI_add, pk_mul, nI_clamp, vp_nI, nI_lt0, nI_ge0, nI_eq0, nI_gt0, nI_le0, nI_neg1, neg1_nI, Nat.not_le, Nat.not_lt, if_true, if_false, true_and, and_true, true_implies, false_implies, implies_true, not_true_eq_false, not_false_eq_true, reduceIte, false_or, or_false, false_and, and_false, true_or, or_true]
          have fin : ∀ v' y, (∀ a, a < 6 → rd v' 15 0 a = if a < j + 1 then lLet bs a else -nI 1) → rd v' 2 0 7 = nI (lCntN bs (j + 1)) → Sm (fun c i j => (c = 15 ∧ i = 0) ∨ (c = 2 ∧ i = 0 ∧ j = 7)) u v' → RunB (d + 3) Y_N_takeLaw 5 [some (.inr (.inr (2, 0))), some (.inr (.inr (6, 2))), some (.inl (nI j)), y] [] v' Q := by
            intro v' y h1 h2 h3
            (refine rb_N_takeLaw_5 ?_; simp only [bk_N_takeLaw_5, gr_aloadn, gr_iconst, gr_putfield, fk_2_7, iz_2_7, NI_2, gr_getfield, fm_2_2, gr_invokestatic, ps_0, ps_s, pu_n, pu_s, ct_0, ct_i, ct_l, ct_r, gr_istoren, st1, clr_0, clr_s, sk_0, sk_s, gr_iloadn, fm_6_1, NI_6, gr_ificmp_ge, gr_invokevirtual, gr_bipush, gr_ificmp_eq, gr_isub, gr_ifCond_ne, gr_ireturn, gr_iinc, gr_goto, gr_arraylength, gr_iastore, gr_dup, pA_i, pA_r, fm_2_7, gr_iadd, NI_15, ia_15, ln_15, al_15, gr_nil, pI_c, pR_c, oI_c, oR_c, lg_i, lg_l, lg_r, lg_n, kI_p, kI_m, lk_0, lk_s, ar_n, ar_c, if_true, if_false, List.replicate, Nat.reduceAdd, Nat.reduceSub, Nat.reduceLeDiff, Nat.reduceEqDiff, Nat.reduceLT, reduceIte, true_and, and_true, true_implies, false_implies, implies_true, eq_self, not_true_eq_false, not_false_eq_true, Bool.false_eq_true, reduceCtorEq, forall_const, List.headD_cons, Nat.zero_add, true_or, or_true, ne_eq, false_and, and_false, false_or, or_false, Nat.reduceBEq, Bool.false_and, Bool.and_false, Bool.or_false, Bool.false_or, Bool.and_self, Bool.true_and, Bool.and_true, Bool.or_self, z10, z01, zm0, nz1, nz0, cnt0])
            rw [nI_add]
            exact ih (j + 1) v' y (by omega) h1 h2 h3
          refine ⟨fun e => ?_, fun e => ⟨by omega, ?_⟩⟩
          · rw [if_pos e] at hlb
            refine fin v _ (fun a ha => ?_) ?_ hs
            · rw [hv a ha]
              by_cases e2 : a = j
              · subst e2; rw [if_neg (by omega), if_pos (by omega), hlb]
              · by_cases e3 : a < j
                · rw [if_pos e3, if_pos (by omega)]
                · rw [if_neg e3, if_neg (by omega)]
            · rw [hc]; simp only [lCntN, hlb, if_true, Nat.add_zero]
          · rw [if_neg e] at hlb
            rw [pk_sub (show 97 ≤ b by omega)]
            refine fin _ _ (fun a ha => ?_) ?_ ((hs.wr _ (Or.inl ⟨rfl, rfl⟩)).wr _ (Or.inr ⟨rfl, rfl, rfl⟩))
            · simp only [rd_wr, Nat.reduceEqDiff, false_and, if_false, true_and]
              by_cases e2 : a = j
              · subst e2; rw [if_pos rfl, if_pos (by omega), hlb]
              · rw [if_neg e2, hv a ha]
                by_cases e3 : a < j
                · rw [if_pos e3, if_pos (by omega)]
                · rw [if_neg e3, if_neg (by omega)]
            · have hne : ¬ lLet bs j = -nI 1 := by rw [hlb]; simp (disch := omega) only [nI_leI, nI_ltI, nI_eq, nI_add, pk_mul, nI_clamp, vp_nI, nI_lt0, nI_ge0, nI_eq0, nI_gt0, nI_le0, nI_neg1, neg1_nI, Nat.not_le, Nat.not_lt, if_true, if_false, true_and, and_true, true_implies, false_implies, implies_true, not_true_eq_false, not_false_eq_true, reduceIte, false_or, or_false, false_and, and_false, true_or, or_true]
              simp only [rd_wr, lCntN, if_neg hne, and_self, if_true]
      exact loop2 bs.length 0 v0 _ (by omega) (fun a ha => by rw [if_neg (by omega)]; exact h150 a ha) h70 hs0'
    | cons b rest ih =>
      intro i y hd hi he
      obtain ⟨hi', hbi, hd'⟩ := drop_facts hd
      have hb256 := htx.2.2.2 b (List.mem_of_getElem? hbi)
      have hrb := htx.2.2.1 i b hbi
      simp only [lFault] at he
      (refine rb_N_takeLaw_1 ?_; simp only [bk_N_takeLaw_1, gr_aloadn, gr_iconst, gr_putfield, fk_2_7, iz_2_7, NI_2, gr_getfield, fm_2_2, gr_invokestatic, ps_0, ps_s, pu_n, pu_s, ct_0, ct_i, ct_l, ct_r, gr_istoren, st1, clr_0, clr_s, sk_0, sk_s, gr_iloadn, fm_6_1, NI_6, gr_ificmp_ge, gr_invokevirtual, gr_bipush, gr_ificmp_eq, gr_isub, gr_ifCond_ne, gr_ireturn, gr_iinc, gr_goto, gr_arraylength, gr_iastore, gr_dup, pA_i, pA_r, fm_2_7, gr_iadd, NI_15, ia_15, ln_15, al_15, gr_nil, pI_c, pR_c, oI_c, oR_c, lg_i, lg_l, lg_r, lg_n, kI_p, kI_m, lk_0, lk_s, ar_n, ar_c, if_true, if_false, List.replicate, Nat.reduceAdd, Nat.reduceSub, Nat.reduceLeDiff, Nat.reduceEqDiff, Nat.reduceLT, reduceIte, true_and, and_true, true_implies, false_implies, implies_true, eq_self, not_true_eq_false, not_false_eq_true, Bool.false_eq_true, reduceCtorEq, forall_const, List.headD_cons, Nat.zero_add, true_or, or_true, ne_eq, false_and, and_false, false_or, or_false, Nat.reduceBEq, Bool.false_and, Bool.and_false, Bool.or_false, Bool.false_or, Bool.and_self, Bool.true_and, Bool.and_true, Bool.or_self, z10, z01, zm0, nz1, nz0, cnt0, h6])
      refine ⟨fun h => absurd h (nI_ge (by omega) (by omega)), fun _ => ?_⟩
      refine c_X_byteAt (by omega) h6 hi' htx.2.1 ?_
      rw [hrb]
      simp only [gr_aloadn, gr_iconst, gr_putfield, fk_2_7, iz_2_7, NI_2, gr_getfield, fm_2_2, gr_invokestatic, ps_0, ps_s, pu_n, pu_s, ct_0, ct_i, ct_l, ct_r, gr_istoren, st1, clr_0, clr_s, sk_0, sk_s, gr_iloadn, fm_6_1, NI_6, gr_ificmp_ge, gr_invokevirtual, gr_bipush, gr_ificmp_eq, gr_isub, gr_ifCond_ne, gr_ireturn, gr_iinc, gr_goto, gr_arraylength, gr_iastore, gr_dup, pA_i, pA_r, fm_2_7, gr_iadd, NI_15, ia_15, ln_15, al_15, gr_nil, pI_c, pR_c, oI_c, oR_c, lg_i, lg_l, lg_r, lg_n, kI_p, kI_m, lk_0, lk_s, ar_n, ar_c, if_true, if_false, List.replicate, Nat.reduceAdd, Nat.reduceSub, Nat.reduceLeDiff, Nat.reduceEqDiff, Nat.reduceLT, reduceIte, true_and, and_true, true_implies, false_implies, implies_true, eq_self, not_true_eq_false, not_false_eq_true, Bool.false_eq_true, reduceCtorEq, forall_const, List.headD_cons, Nat.zero_add, true_or, or_true, ne_eq, false_and, and_false, false_or, or_false, Nat.reduceBEq, Bool.false_and, Bool.and_false, Bool.or_false, Bool.false_or, Bool.and_self, Bool.true_and, Bool.and_true, Bool.or_self, z10, z01, zm0, nz1, nz0, cnt0]
      simp (disch := omega) only [nI_leI, nI_ltI, nI_eq, nI_add, pk_mul, nI_clamp, vp_nI, nI_lt0, nI_ge0, nI_eq0, nI_gt0, nI_le0, nI_neg1, neg1_nI, Nat.not_le, Nat.not_lt, if_true, if_false, true_and, and_true, true_implies, false_implies, implies_true, not_true_eq_false, not_false_eq_true, reduceIte, false_or, or_false, false_and, and_false, true_or, or_true]
      have bad : ¬ (b = 46 ∨ (97 ≤ b ∧ b ≤ 104)) → Q (some (.inl (nI i))) v0 := by
        intro hb
        rw [if_neg hb] at he
        rw [← he] at hq
        refine hq v0 ⟨fun a ha => ?_, ?_, ?_⟩ hs0'
        · rw [h150 a ha, lLaw, if_neg (by rw [← he]; simp)]
        · rw [h70, lCnt, if_neg (by rw [← he]; simp)]
        · rw [lCnt, if_neg (by rw [← he]; simp)]; omega
      have good : (b = 46 ∨ (97 ≤ b ∧ b ≤ 104)) → ∀ y, RunB (d + 3) Y_N_takeLaw 2 [some (.inr (.inr (2, 0))), some (.inr (.inr (6, 2))), some (.inl (nI i)), y] [] v0 Q := by
        intro hb y
        rw [if_pos hb] at he
        (refine rb_N_takeLaw_2 ?_; simp only [bk_N_takeLaw_2, gr_aloadn, gr_iconst, gr_putfield, fk_2_7, iz_2_7, NI_2, gr_getfield, fm_2_2, gr_invokestatic, ps_0, ps_s, pu_n, pu_s, ct_0, ct_i, ct_l, ct_r, gr_istoren, st1, clr_0, clr_s, sk_0, sk_s, gr_iloadn, fm_6_1, NI_6, gr_ificmp_ge, gr_invokevirtual, gr_bipush, gr_ificmp_eq, gr_isub, gr_ifCond_ne, gr_ireturn, gr_iinc, gr_goto, gr_arraylength, gr_iastore, gr_dup, pA_i, pA_r, fm_2_7, gr_iadd, NI_15, ia_15, ln_15, al_15, gr_nil, pI_c, pR_c, oI_c, oR_c, lg_i, lg_l, lg_r, lg_n, kI_p, kI_m, lk_0, lk_s, ar_n, ar_c, if_true, if_false, List.replicate, Nat.reduceAdd, Nat.reduceSub, Nat.reduceLeDiff, Nat.reduceEqDiff, Nat.reduceLT, reduceIte, true_and, and_true, true_implies, false_implies, implies_true, eq_self, not_true_eq_false, not_false_eq_true, Bool.false_eq_true, reduceCtorEq, forall_const, List.headD_cons, Nat.zero_add, true_or, or_true, ne_eq, false_and, and_false, false_or, or_false, Nat.reduceBEq, Bool.false_and, Bool.and_false, Bool.or_false, Bool.false_or, Bool.and_self, Bool.true_and, Bool.and_true, Bool.or_self, z10, z01, zm0, nz1, nz0, cnt0])
        rw [nI_add]
        exact ih (i + 1) y hd' (by omega) he
      refine ⟨fun e => good (Or.inl e) _, fun e => ?_⟩
      rcases sub_cs b 97 (by omega) (by omega) with ⟨hc, e'⟩ | ⟨hc, e'⟩
      · rw [e']
        refine c_W_isBelow (fun _ h => ?_) (fun h => ?_)
        · simp (disch := omega) only [nI_leI, nI_ltI, nI_eq, nI_add, pk_mul, nI_clamp, vp_nI, nI_lt0, nI_ge0, nI_eq0, nI_gt0, nI_le0, nI_neg1, neg1_nI, Nat.not_le, Nat.not_lt, if_true, if_false, true_and, and_true, true_implies, false_implies, implies_true, not_true_eq_false, not_false_eq_true, reduceIte, false_or, or_false, false_and, and_false, true_or, or_true] at h
          simp only [gr_aloadn, gr_iconst, gr_putfield, fk_2_7, iz_2_7, NI_2, gr_getfield, fm_2_2, gr_invokestatic, ps_0, ps_s, pu_n, pu_s, ct_0, ct_i, ct_l, ct_r, gr_istoren, st1, clr_0, clr_s, sk_0, sk_s, gr_iloadn, fm_6_1, NI_6, gr_ificmp_ge, gr_invokevirtual, gr_bipush, gr_ificmp_eq, gr_isub, gr_ifCond_ne, gr_ireturn, gr_iinc, gr_goto, gr_arraylength, gr_iastore, gr_dup, pA_i, pA_r, fm_2_7, gr_iadd, NI_15, ia_15, ln_15, al_15, gr_nil, pI_c, pR_c, oI_c, oR_c, lg_i, lg_l, lg_r, lg_n, kI_p, kI_m, lk_0, lk_s, ar_n, ar_c, if_true, if_false, List.replicate, Nat.reduceAdd, Nat.reduceSub, Nat.reduceLeDiff, Nat.reduceEqDiff, Nat.reduceLT, reduceIte, true_and, and_true, true_implies, false_implies, implies_true, eq_self, not_true_eq_false, not_false_eq_true, Bool.false_eq_true, reduceCtorEq, forall_const, List.headD_cons, Nat.zero_add, true_or, or_true, ne_eq, false_and, and_false, false_or, or_false, Nat.reduceBEq, Bool.false_and, Bool.and_false, Bool.or_false, Bool.false_or, Bool.and_self, Bool.true_and, Bool.and_true, Bool.or_self, z10, z01, zm0, nz1, nz0, cnt0]
          exact good (by omega) _
        · simp (disch := omega) only [nI_leI, nI_ltI, nI_eq, nI_add, pk_mul, nI_clamp, vp_nI, nI_lt0, nI_ge0, nI_eq0, nI_gt0, nI_le0, nI_neg1, neg1_nI, Nat.not_le, Nat.not_lt, if_true, if_false, true_and, and_true, true_implies, false_implies, implies_true, not_true_eq_false, not_false_eq_true, reduceIte, false_or, or_false, false_and, and_false, true_or, or_true] at h
          simp only [gr_aloadn, gr_iconst, gr_putfield, fk_2_7, iz_2_7, NI_2, gr_getfield, fm_2_2, gr_invokestatic, ps_0, ps_s, pu_n, pu_s, ct_0, ct_i, ct_l, ct_r, gr_istoren, st1, clr_0, clr_s, sk_0, sk_s, gr_iloadn, fm_6_1, NI_6, gr_ificmp_ge, gr_invokevirtual, gr_bipush, gr_ificmp_eq, gr_isub, gr_ifCond_ne, gr_ireturn, gr_iinc, gr_goto, gr_arraylength, gr_iastore, gr_dup, pA_i, pA_r, fm_2_7, gr_iadd, NI_15, ia_15, ln_15, al_15, gr_nil, pI_c, pR_c, oI_c, oR_c, lg_i, lg_l, lg_r, lg_n, kI_p, kI_m, lk_0, lk_s, ar_n, ar_c, if_true, if_false, List.replicate, Nat.reduceAdd, Nat.reduceSub, Nat.reduceLeDiff, Nat.reduceEqDiff, Nat.reduceLT, reduceIte, true_and, and_true, true_implies, false_implies, implies_true, eq_self, not_true_eq_false, not_false_eq_true, Bool.false_eq_true, reduceCtorEq, forall_const, List.headD_cons, Nat.zero_add, true_or, or_true, ne_eq, false_and, and_false, false_or, or_false, Nat.reduceBEq, Bool.false_and, Bool.and_false, Bool.or_false, Bool.false_or, Bool.and_self, Bool.true_and, Bool.and_true, Bool.or_self, z10, z01, zm0, nz1, nz0, cnt0]
          exact bad (by omega)
      · refine c_W_isBelow (fun h => absurd e' h) (fun h => ?_)
        simp only [gr_aloadn, gr_iconst, gr_putfield, fk_2_7, iz_2_7, NI_2, gr_getfield, fm_2_2, gr_invokestatic, ps_0, ps_s, pu_n, pu_s, ct_0, ct_i, ct_l, ct_r, gr_istoren, st1, clr_0, clr_s, sk_0, sk_s, gr_iloadn, fm_6_1, NI_6, gr_ificmp_ge, gr_invokevirtual, gr_bipush, gr_ificmp_eq, gr_isub, gr_ifCond_ne, gr_ireturn, gr_iinc, gr_goto, gr_arraylength, gr_iastore, gr_dup, pA_i, pA_r, fm_2_7, gr_iadd, NI_15, ia_15, ln_15, al_15, gr_nil, pI_c, pR_c, oI_c, oR_c, lg_i, lg_l, lg_r, lg_n, kI_p, kI_m, lk_0, lk_s, ar_n, ar_c, if_true, if_false, List.replicate, Nat.reduceAdd, Nat.reduceSub, Nat.reduceLeDiff, Nat.reduceEqDiff, Nat.reduceLT, reduceIte, true_and, and_true, true_implies, false_implies, implies_true, eq_self, not_true_eq_false, not_false_eq_true, Bool.false_eq_true, reduceCtorEq, forall_const, List.headD_cons, Nat.zero_add, true_or, or_true, ne_eq, false_and, and_false, false_or, or_false, Nat.reduceBEq, Bool.false_and, Bool.and_false, Bool.or_false, Bool.false_or, Bool.and_self, Bool.true_and, Bool.and_true, Bool.or_self, z10, z01, zm0, nz1, nz0, cnt0]
        exact bad (by omega)
  exact loop bs 0 _ rfl (by omega) rfl
