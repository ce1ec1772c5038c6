/-- is the law obeyed from day a on until til, with these rains -/
def latR (A : AS) (til : Nat) (R : Nat → Nat) : Nat → Nat → WS → Bool
  | 0, _, _ => false
  | f + 1, a, w => if til < a ∨ 20 ≤ a then false else if obD A a w (R a) = true then true else latR A til R f (a + 1) (stepD A.S a (R a) w)
theorem latR_N (A : AS) (til : Nat) : ∀ f a w, latR A til A.R f a w = latN A til f a w := by
  intro f
  induction f with
  | zero => intro a w; rfl
  | succ f ih => intro a w; simp only [latR, latN, ih]
theorem latR_congr (A : AS) (til : Nat) {R R' : Nat → Nat} : ∀ f a w, (∀ x, a ≤ x → R x = R' x) → latR A til R f a w = latR A til R' f a w := by
  intro f
  induction f with
  | zero => intro a w _; rfl
  | succ f ih =>
    intro a w h
    simp only [latR]
    rw [h a (Nat.le_refl _), ih (a + 1) (stepD A.S a (R' a) w) (fun x hx => h x (by omega))]
theorem latR_lc (A : AS) (til : Nat) (R : Nat → Nat) (h : A.lc = 0) : ∀ f a w, latR A til R f a w = false := by
  intro f
  induction f with
  | zero => intro a w; rfl
  | succ f ih =>
    intro a w
    simp only [latR, ih]
    have : obD A a w (R a) = false := by unfold obD obB; rw [h]; rfl
    rw [this]
    simp
theorem lat_fo (A : AS) (til : Nat) (R : Nat → Nat) : ∀ f a, a + f = 20 → (latR A til R (f + 1) a (wall A.S R a) = true ↔ ∃ x, foN A.V A.lc (fct A.S R) f a = nI x ∧ a ≤ x ∧ x ≤ til ∧ x < 20) := by
  intro f
  induction f with
  | zero =>
    intro a ha
    simp only [latR, foN]
    rw [if_pos (by omega)]
    refine ⟨fun z => absurd z Bool.false_ne_true, fun ⟨x, e, _, _, hx⟩ => ?_⟩
    rw [neg1_nI (by omega)] at e
    exact e.elim
  | succ f ih =>
    intro a ha
    have ih' := ih (a + 1) (by omega)
    rw [latR, foN]
    have eo : obB A.V A.lc (fun c => fct A.S R a c 0) = obD A a (wall A.S R a) (R a) := rfl
    rw [eo]
    by_cases h1 : til < a
    · rw [if_pos (Or.inl h1)]
      exact ⟨fun z => absurd z Bool.false_ne_true, fun ⟨x, _, e1, e2, _⟩ => by omega⟩
    · rw [if_neg (by omega)]
      by_cases h2 : obD A a (wall A.S R a) (R a) = true
      · rw [if_pos h2, if_pos h2]
        exact ⟨fun _ => ⟨a, rfl, Nat.le_refl _, by omega, by omega⟩, fun _ => rfl⟩
      · rw [if_neg h2, if_neg h2]
        have ew : stepD A.S a (R a) (wall A.S R a) = wall A.S R (a + 1) := rfl
        rw [ew, ih']
        refine ⟨fun ⟨x, e1, e2, e3, e4⟩ => ⟨x, e1, by omega, e3, e4⟩, fun ⟨x, e1, e2, e3, e4⟩ => ⟨x, e1, ?_, e3, e4⟩⟩
        rcases foN_lt A.V A.lc (fct A.S R) f (a + 1) with e | ⟨y, f1, f2, f3⟩
        · rw [e, neg1_nI (by omega)] at e1; exact e1.elim
        · rw [f3, nI_eq (by omega) (by omega)] at e1; omega
def sumN (g : Nat → Nat) : Nat → Nat
  | 0 => 0
  | n + 1 => sumN g n + g n
theorem sum_two (g : Nat → Nat) : ∀ m, sumN g (2 * m) = sumN (fun r => g (2 * r)) m + sumN (fun r => g (2 * r + 1)) m := by
  intro m
  induction m with
  | zero => rfl
  | succ m ih =>
    show sumN g (2 * m + 1 + 1) = _
    simp only [sumN]
    rw [ih]
    omega
theorem sum_mul (k : Nat) (g : Nat → Nat) : ∀ m, sumN (fun r => k * g r) m = k * sumN g m := by
  intro m
  induction m with
  | zero => rfl
  | succ m ih => simp only [sumN]; rw [ih, Nat.mul_add]
theorem sum_0 (g : Nat → Nat) (h : ∀ r, g r = 0) : ∀ m, sumN g m = 0 := by
  intro m
  induction m with
  | zero => rfl
  | succ m ih => simp only [sumN]; rw [ih, h]
def wtN (c s : Nat) : Nat → Nat
  | 0 => 1
  | n + 1 => wtN c s n * (if s / 2 ^ n % 2 = 1 then c else 16 - c)
theorem div_s (x k : Nat) : x / 2 ^ (k + 1) = x / 2 / 2 ^ k := by rw [Nat.div_div_eq_div_mul, Nat.pow_succ, Nat.mul_comm]
theorem wt_s (c s : Nat) : ∀ n, wtN c s (n + 1) = (if s % 2 = 1 then c else 16 - c) * wtN c (s / 2) n := by
  intro n
  induction n with
  | zero =>
    simp only [wtN]
    rw [Nat.pow_zero, Nat.div_one, Nat.one_mul, Nat.mul_one]
  | succ n ih =>
    rw [show wtN c s (n + 1 + 1) = wtN c s (n + 1) * (if s / 2 ^ (n + 1) % 2 = 1 then c else 16 - c) from rfl, ih, div_s]
    rw [show wtN c (s / 2) (n + 1) = wtN c (s / 2) n * (if s / 2 / 2 ^ n % 2 = 1 then c else 16 - c) from rfl, Nat.mul_assoc]
theorem wt_e (c r n : Nat) : wtN c (2 * r) (n + 1) = (16 - c) * wtN c r n := by
  rw [wt_s, if_neg (by omega), show 2 * r / 2 = r by omega]
theorem wt_o (c r n : Nat) : wtN c (2 * r + 1) (n + 1) = c * wtN c r n := by
  rw [wt_s, if_pos (by omega), show (2 * r + 1) / 2 = r by omega]
theorem pw2 (n : Nat) : 2 ^ (n + 1) = 2 * 2 ^ n := by rw [Nat.pow_succ, Nat.mul_comm]
theorem c16 {c : Nat} (hc : c ≤ 16) (x : Nat) : (16 - c) * x + c * x = 16 * x := by
  rw [← Nat.add_mul]; congr 1; omega
theorem wt_sum {c : Nat} (hc : c ≤ 16) : ∀ n, sumN (fun r => wtN c r n) (2 ^ n) = 16 ^ n := by
  intro n
  induction n with
  | zero => rfl
  | succ n ih =>
    rw [pw2, sum_two]
    simp only [wt_e, wt_o]
    rw [sum_mul, sum_mul, ih, c16 hc, Nat.pow_succ, Nat.mul_comm]
/-- rains as chance has them: from day a to the last, by the bits of r -/
def rA (A : AS) (last a r x : Nat) : Nat := if a ≤ x ∧ x ≤ last then (if r / 2 ^ (x - a) % 2 = 1 then A.R x else 0) else A.R x
theorem rA_next (A : AS) {last a r q : Nat} (hq : q / 2 = r) : ∀ x, a + 1 ≤ x → rA A last a q x = rA A last (a + 1) r x := by
  intro x hx
  unfold rA
  have e : q / 2 ^ (x - a) = r / 2 ^ (x - (a + 1)) := by
    rw [show x - a = x - (a + 1) + 1 by omega, div_s, hq]
  rw [e]
  by_cases h : x ≤ last
  · have c1 : a ≤ x ∧ x ≤ last := ⟨by omega, h⟩
    have c2 : a + 1 ≤ x ∧ x ≤ last := ⟨hx, h⟩
    rw [if_pos c1, if_pos c2]
  · have c1 : ¬ (a ≤ x ∧ x ≤ last) := fun z => h z.2
    have c2 : ¬ (a + 1 ≤ x ∧ x ≤ last) := fun z => h z.2
    rw [if_neg c1, if_neg c2]
theorem rA_here (A : AS) {last a q : Nat} (h : a ≤ last) : rA A last a q a = if q % 2 = 1 then A.R a else 0 := by
  unfold rA
  rw [if_pos ⟨Nat.le_refl _, h⟩, Nat.sub_self, Nat.pow_zero, Nat.div_one]
theorem sh_sum (A : AS) {c last til : Nat} (hc : c ≤ 16) (hl : last ≤ 9) : ∀ f a w, a + f = 11 → a ≤ last + 1 → sumN (fun r => if latR A til (rA A last a r) (21 - a) a w = true then wtN c r (last + 1 - a) else 0) (2 ^ (last + 1 - a)) = shF A c last til f a w := by
  intro f
  induction f with
  | zero => intro a w h1 h2; omega
  | succ f ih =>
    intro a w h1 h2
    simp only [shF]
    rw [show 21 - a = 20 - a + 1 by omega]
    by_cases ht : til < a
    · rw [if_pos ht]
      refine sum_0 _ (fun r => ?_) _
      have e : latR A til (rA A last a r) (20 - a + 1) a w = false := by rw [latR, if_pos (Or.inl ht)]
      rw [e, if_neg Bool.false_ne_true]
    · rw [if_neg ht]
      by_cases hla : last < a
      · rw [if_pos hla, show last + 1 - a = 0 by omega]
        show 0 + (if latR A til (rA A last a 0) (20 - a + 1) a w = true then wtN c 0 0 else 0) = _
        rw [Nat.zero_add, latR_congr A til (R' := A.R) (20 - a + 1) a w (fun x hx => by unfold rA; rw [if_neg (by omega)]), latR_N, show 20 - a + 1 = 21 - a by omega]
        rfl
      · rw [if_neg hla, show last + 1 - a = last - a + 1 by omega, pw2, sum_two]
        have half : ∀ (r0 : Nat) (k : Nat), sumN (fun r => k * (if (if obD A a w r0 = true then true else latR A til (rA A last (a + 1) r) (20 - a) (a + 1) (stepD A.S a r0 w)) = true then wtN c r (last - a) else 0)) (2 ^ (last - a)) = k * (if obD A a w r0 = true then 16 ^ (last - a) else shF A c last til f (a + 1) (stepD A.S a r0 w)) := by
          intro r0 k
          rw [sum_mul]
          congr 1
          by_cases ho : obD A a w r0 = true
          · simp only [if_pos ho, if_true]
            exact wt_sum hc (last - a)
          · simp only [if_neg ho]
            have := ih (a + 1) (stepD A.S a r0 w) (by omega) (by omega)
            rw [show last + 1 - (a + 1) = last - a by omega, show 21 - (a + 1) = 20 - a by omega] at this
            exact this
        have even : (fun r => if latR A til (rA A last a (2 * r)) (20 - a + 1) a w = true then wtN c (2 * r) (last - a + 1) else 0) = (fun r => (16 - c) * (if (if obD A a w 0 = true then true else latR A til (rA A last (a + 1) r) (20 - a) (a + 1) (stepD A.S a 0 w)) = true then wtN c r (last - a) else 0)) := by
          funext r
          have e : latR A til (rA A last a (2 * r)) (20 - a + 1) a w = (if obD A a w 0 = true then true else latR A til (rA A last (a + 1) r) (20 - a) (a + 1) (stepD A.S a 0 w)) := by
            rw [latR, if_neg (show ¬ (til < a ∨ 20 ≤ a) by omega), rA_here A (by omega), if_neg (show ¬ 2 * r % 2 = 1 by omega), latR_congr A til (20 - a) (a + 1) (stepD A.S a 0 w) (rA_next A (last := last) (a := a) (r := r) (q := 2 * r) (by omega))]
          rw [e, wt_e]
          generalize (if obD A a w 0 = true then true else latR A til (rA A last (a + 1) r) (20 - a) (a + 1) (stepD A.S a 0 w)) = bb
          cases bb with
          | true => rfl
          | false => exact (Nat.mul_zero _).symm
        have odd : (fun r => if latR A til (rA A last a (2 * r + 1)) (20 - a + 1) a w = true then wtN c (2 * r + 1) (last - a + 1) else 0) = (fun r => c * (if (if obD A a w (A.R a) = true then true else latR A til (rA A last (a + 1) r) (20 - a) (a + 1) (stepD A.S a (A.R a) w)) = true then wtN c r (last - a) else 0)) := by
          funext r
          have e : latR A til (rA A last a (2 * r + 1)) (20 - a + 1) a w = (if obD A a w (A.R a) = true then true else latR A til (rA A last (a + 1) r) (20 - a) (a + 1) (stepD A.S a (A.R a) w)) := by
            rw [latR, if_neg (show ¬ (til < a ∨ 20 ≤ a) by omega), rA_here A (by omega), if_pos (show (2 * r + 1) % 2 = 1 by omega), latR_congr A til (20 - a) (a + 1) (stepD A.S a (A.R a) w) (rA_next A (last := last) (a := a) (r := r) (q := 2 * r + 1) (by omega))]
          rw [e, wt_o]
          generalize (if obD A a w (A.R a) = true then true else latR A til (rA A last (a + 1) r) (20 - a) (a + 1) (stepD A.S a (A.R a) w)) = bb
          cases bb with
          | true => rfl
          | false => exact (Nat.mul_zero _).symm
        rw [even, odd, half 0 (16 - c), half (A.R a) c]
        by_cases h0 : A.R a = 0
        · rw [if_pos h0, h0, c16 hc]
        · rw [if_neg h0, Nat.add_comm]
def abN (A : AS) (c last til n : Nat) : Nat := sumN (fun r => if latR A til (rA A last 0 r) 21 0 w0 = true then wtN c r (last + 1) else 0) n
theorem ab_eq (A : AS) {c last til : Nat} (hc : c ≤ 16) (hl : last ≤ 9) : abN A c last til (2 ^ (last + 1)) = shX A c last til := by
  unfold abN shX
  by_cases h : A.lc = 0
  · rw [if_pos h]
    exact sum_0 _ (fun r => by rw [latR_lc A til _ h, if_neg Bool.false_ne_true]) _
  · rw [if_neg h]
    exact sh_sum A hc hl 11 0 w0 rfl (Nat.zero_le _)
set_option maxHeartbeats 4000000 in
set_option maxRecDepth 100000 in
theorem c_M_part {d x y w : Nat} {u : Mem} {Q : Option MV → Mem → Prop} (hx : x < 2 ^ 50) (hy : y < 2 ^ 50) (hy0 : 0 < y) (hw : w < 2) (hq : Q (some (.inr (.inl (lN ((if w = 0 then x else y) / Nat.gcd x y))))) u) : OKm (d + 1) g_M_part [.inr (.inl (lN x)), .inr (.inl (lN y)), .inl (nI w)] u Q := by
  (refine en_M_part _ (Nat.le_of_ble_eq_true rfl) (rb_M_part_0 ?_); simp only [bk_M_part_0, gr_lloadn, pL_c, oL_c, kL_p, kL_m, gr_lstore, st2, clr_0, clr_s, sk_0, sk_s, gr_lload, gr_lconst, gr_lcmp, gr_ifCond_eq, gr_lrem, gr_goto, gr_iload, gr_ifCond_ne, gr_ldiv, gr_lreturn, gr_nil, pI_c, pR_c, oI_c, oR_c, lg_i, lg_l, lg_r, lg_n, kI_p, kI_m, lk_0, lk_s, ar_n, ar_c, if_true, if_false, List.replicate, Nat.reduceAdd, Nat.reduceSub, Nat.reduceLeDiff, Nat.reduceEqDiff, Nat.reduceLT, reduceIte, true_and, and_true, true_implies, false_implies, implies_true, eq_self, not_true_eq_false, not_false_eq_true, Bool.false_eq_true, reduceCtorEq, forall_const, List.headD_cons, Nat.zero_add, true_or, or_true, ne_eq, false_and, and_false, false_or, or_false, Nat.reduceBEq, Bool.false_and, Bool.and_false, Bool.or_false, Bool.false_or, Bool.and_self, Bool.true_and, Bool.and_true, Bool.or_self, z10, z01, zm0, nz1, nz0, cnt0])
  have loop : ∀ (k a b : Nat), b < k → a < 2 ^ 50 → b < 2 ^ 50 → Nat.gcd a b = Nat.gcd x y → RunB (d + 1) Y_M_part 1 [some (.inr (.inl (lN x))), none, some (.inr (.inl (lN y))), none, some (.inl (nI w)), some (.inr (.inl (lN a))), none, some (.inr (.inl (lN b))), none, none, none] [] u Q := by
    intro k
    induction k with
    | zero => intro a b hb; omega
    | succ k ih =>
      intro a b hb ha hb5 he
      (refine rb_M_part_1 ?_; simp only [bk_M_part_1, gr_lloadn, pL_c, oL_c, kL_p, kL_m, gr_lstore, st2, clr_0, clr_s, sk_0, sk_s, gr_lload, gr_lconst, gr_lcmp, gr_ifCond_eq, gr_lrem, gr_goto, gr_iload, gr_ifCond_ne, gr_ldiv, gr_lreturn, gr_nil, pI_c, pR_c, oI_c, oR_c, lg_i, lg_l, lg_r, lg_n, kI_p, kI_m, lk_0, lk_s, ar_n, ar_c, if_true, if_false, List.replicate, Nat.reduceAdd, Nat.reduceSub, Nat.reduceLeDiff, Nat.reduceEqDiff, Nat.reduceLT, reduceIte, true_and, and_true, true_implies, false_implies, implies_true, eq_self, not_true_eq_false, not_false_eq_true, Bool.false_eq_true, reduceCtorEq, forall_const, List.headD_cons, Nat.zero_add, true_or, or_true, ne_eq, false_and, and_false, false_or, or_false, Nat.reduceBEq, Bool.false_and, Bool.and_false, Bool.or_false, Bool.false_or, Bool.and_self, Bool.true_and, Bool.and_true, Bool.or_self, z10, z01, zm0, nz1, nz0, cnt0])
      simp (disch := omega) only [lg_eq0]
      refine ⟨fun e => ?_, fun e => ?_⟩
      · subst e
        rw [Nat.gcd_zero_right] at he
        have hg0 : 0 < a := by rw [he]; exact Nat.gcd_pos_of_pos_right _ hy0
        have hgz : ¬ lN a = 0 := fun z => by have := (pk_lEQ (a := a) (b := 0) (by omega) (by omega)).mp z; omega
        rw [← he] at hq
        (refine rb_M_part_2 ?_; simp only [bk_M_part_2, gr_lloadn, pL_c, oL_c, kL_p, kL_m, gr_lstore, st2, clr_0, clr_s, sk_0, sk_s, gr_lload, gr_lconst, gr_lcmp, gr_ifCond_eq, gr_lrem, gr_goto, gr_iload, gr_ifCond_ne, gr_ldiv, gr_lreturn, gr_nil, pI_c, pR_c, oI_c, oR_c, lg_i, lg_l, lg_r, lg_n, kI_p, kI_m, lk_0, lk_s, ar_n, ar_c, if_true, if_false, List.replicate, Nat.reduceAdd, Nat.reduceSub, Nat.reduceLeDiff, Nat.reduceEqDiff, Nat.reduceLT, reduceIte, true_and, and_true, true_implies, false_implies, implies_true, eq_self, not_true_eq_false, not_false_eq_true, Bool.false_eq_true, reduceCtorEq, forall_const, List.headD_cons, Nat.zero_add, true_or, or_true, ne_eq, false_and, and_false, false_or, or_false, Nat.reduceBEq, Bool.false_and, Bool.and_false, Bool.or_false, Bool.false_or, Bool.and_self, Bool.true_and, Bool.and_true, Bool.or_self, z10, z01, zm0, nz1, nz0, cnt0])
        simp (disch := omega) only [nI_leI, nI_ltI, nI_eq, nI_add, pk_mul, nI_clamp, vp_nI, nI_lt0, nI_ge0, nI_eq0, nI_gt0, nI_le0, nI_neg1, neg1_nI, Nat.not_le, Nat.not_lt, if_true, if_false, true_and, and_true, true_implies, false_implies, implies_true, not_true_eq_false, not_false_eq_true, reduceIte, false_or, or_false, false_and, and_false, true_or, or_true]
        refine ⟨fun e0 => ?_, fun e0 => ?_⟩
        · rw [if_neg e0] at hq
          (refine rb_M_part_3 ?_; simp only [bk_M_part_3, gr_lloadn, pL_c, oL_c, kL_p, kL_m, gr_lstore, st2, clr_0, clr_s, sk_0, sk_s, gr_lload, gr_lconst, gr_lcmp, gr_ifCond_eq, gr_lrem, gr_goto, gr_iload, gr_ifCond_ne, gr_ldiv, gr_lreturn, gr_nil, pI_c, pR_c, oI_c, oR_c, lg_i, lg_l, lg_r, lg_n, kI_p, kI_m, lk_0, lk_s, ar_n, ar_c, if_true, if_false, List.replicate, Nat.reduceAdd, Nat.reduceSub, Nat.reduceLeDiff, Nat.reduceEqDiff, Nat.reduceLT, reduceIte, true_and, and_true, true_implies, false_implies, implies_true, eq_self, not_true_eq_false, not_false_eq_true, Bool.false_eq_true, reduceCtorEq, forall_const, List.headD_cons, Nat.zero_add, true_or, or_true, ne_eq, false_and, and_false, false_or, or_false, Nat.reduceBEq, Bool.false_and, Bool.and_false, Bool.or_false, Bool.false_or, Bool.and_self, Bool.true_and, Bool.and_true, Bool.or_self, z10, z01, zm0, nz1, nz0, cnt0])
          (refine rb_M_part_4 ?_; simp only [bk_M_part_4, gr_lloadn, pL_c, oL_c, kL_p, kL_m, gr_lstore, st2, clr_0, clr_s, sk_0, sk_s, gr_lload, gr_lconst, gr_lcmp, gr_ifCond_eq, gr_lrem, gr_goto, gr_iload, gr_ifCond_ne, gr_ldiv, gr_lreturn, gr_nil, pI_c, pR_c, oI_c, oR_c, lg_i, lg_l, lg_r, lg_n, kI_p, kI_m, lk_0, lk_s, ar_n, ar_c, if_true, if_false, List.replicate, Nat.reduceAdd, Nat.reduceSub, Nat.reduceLeDiff, Nat.reduceEqDiff, Nat.reduceLT, reduceIte, true_and, and_true, true_implies, false_implies, implies_true, eq_self, not_true_eq_false, not_false_eq_true, Bool.false_eq_true, reduceCtorEq, forall_const, List.headD_cons, Nat.zero_add, true_or, or_true, ne_eq, false_and, and_false, false_or, or_false, Nat.reduceBEq, Bool.false_and, Bool.and_false, Bool.or_false, Bool.false_or, Bool.and_self, Bool.true_and, Bool.and_true, Bool.or_self, z10, z01, zm0, nz1, nz0, cnt0])
          rw [pk_lDiv (by omega) hg0 (by omega)]
          exact ⟨hgz, hq⟩
        · rw [if_pos e0] at hq
          (refine rb_M_part_4 ?_; simp only [bk_M_part_4, gr_lloadn, pL_c, oL_c, kL_p, kL_m, gr_lstore, st2, clr_0, clr_s, sk_0, sk_s, gr_lload, gr_lconst, gr_lcmp, gr_ifCond_eq, gr_lrem, gr_goto, gr_iload, gr_ifCond_ne, gr_ldiv, gr_lreturn, gr_nil, pI_c, pR_c, oI_c, oR_c, lg_i, lg_l, lg_r, lg_n, kI_p, kI_m, lk_0, lk_s, ar_n, ar_c, if_true, if_false, List.replicate, Nat.reduceAdd, Nat.reduceSub, Nat.reduceLeDiff, Nat.reduceEqDiff, Nat.reduceLT, reduceIte, true_and, and_true, true_implies, false_implies, implies_true, eq_self, not_true_eq_false, not_false_eq_true, Bool.false_eq_true, reduceCtorEq, forall_const, List.headD_cons, Nat.zero_add, true_or, or_true, ne_eq, false_and, and_false, false_or, or_false, Nat.reduceBEq, Bool.false_and, Bool.and_false, Bool.or_false, Bool.false_or, Bool.and_self, Bool.true_and, Bool.and_true, Bool.or_self, z10, z01, zm0, nz1, nz0, cnt0])
          rw [pk_lDiv (by omega) hg0 (by omega)]
          exact ⟨hgz, hq⟩
      · have hr : a % b < b := Nat.mod_lt _ (by omega)
        have he2 : Nat.gcd b (a % b) = Nat.gcd x y := by rw [← he, Nat.gcd_comm a b, Nat.gcd_rec b a, Nat.gcd_comm]
        have er : lrm (lN a) (lN b) = lN (a % b) := pk_lRem (by omega) (by omega) (by omega)
        have hb1 : ¬ lN b = 0 := fun z => by have := (pk_lEQ (a := b) (b := 0) (by omega) (by omega)).mp z; omega
        rw [er]
        exact ⟨hb1, run_le (ih b (a % b) (by omega) (by omega) (by omega) he2) (by simp [leL])⟩
  exact run_le (loop (y + 1) x y (by omega) hx hy rfl) (by simp [leL])
theorem shl2 : ∀ k, k < 10 → nI 2 <<< (nI k &&& 31) = nI (2 ^ (k + 1)) := by decide +kernel
theorem pow2_le {k : Nat} (h : k < 10) : 2 ^ (k + 1) ≤ 1024 := by
  have : ∀ k, k < 10 → 2 ^ (k + 1) ≤ 1024 := by decide
  exact this k h
abbrev FSw : Nat → Nat → Nat → Prop := fun c i j => FLM c i j ∨ (c = 39 ∧ j < 20) ∨ c = 48
set_option maxHeartbeats 4000000 in
set_option maxRecDepth 100000 in
theorem c_M_showerOf {d c last til w : Nat} {A : AS} {u : Mem} {Q : Option MV → Mem → Prop} (hc : c ≤ 16) (hla : last ≤ 9) (hti : til < 20) (hw : w < 2) (h : MF A u) (hq : ∀ v, MF A v → KK u v → Q (some (.inr (.inl (lN (shV A c last til w))))) v) : OKm (d + 4) g_M_showerOf [.inr (.inr (8, 0)), .inl (nI c), .inl (nI last), .inl (nI til), .inl (nI w)] u Q := by
  have hxle := shX_le A (last := last) (til := til) hc
  obtain ⟨hy0, hy1⟩ := pw16 (last + 1) (by omega)
  have hp2 := pow2_le (k := last) (by omega)
  have hR := h.rain
  (refine en_M_showerOf _ (Nat.le_of_ble_eq_true rfl) (rb_M_showerOf_0 ?_); simp only [bk_M_showerOf_0, gr_lconst, pL_c, oL_c, kL_p, kL_m, gr_lstore, st2, clr_0, clr_s, sk_0, sk_s, gr_iconst, gr_istore, st1, gr_iload, gr_bipush, gr_ificmp_ge, gr_aloadn, gr_getfield, fm_8_26, NI_8, fm_8_11, gr_iaload, gr_iastore, gr_iinc, gr_goto, gr_iloadn, gr_ishl, gr_ificmp_gt, gr_invokestatic, ps_0, ps_s, pu_n, pu_s, ct_0, ct_i, ct_l, ct_r, gr_ifCond_eq, gr_lload, gr_i2l, gr_isub, gr_lmul, gr_invokevirtual, gr_ificmp_eq, gr_ladd, gr_iadd, gr_imul, gr_lshl, gr_lreturn, NI_39, ia_39, ln_39, al_39, NI_48, ia_48, ln_48, al_48, gr_nil, pI_c, pR_c, oI_c, oR_c, lg_i, lg_l, lg_r, lg_n, kI_p, kI_m, lk_0, lk_s, ar_n, ar_c, if_true, if_false, List.replicate, Nat.reduceAdd, Nat.reduceSub, Nat.reduceLeDiff, Nat.reduceEqDiff, Nat.reduceLT, reduceIte, true_and, and_true, true_implies, false_implies, implies_true, eq_self, not_true_eq_false, not_false_eq_true, Bool.false_eq_true, reduceCtorEq, forall_const, List.headD_cons, Nat.zero_add, true_or, or_true, ne_eq, false_and, and_false, false_or, or_false, Nat.reduceBEq, Bool.false_and, Bool.and_false, Bool.or_false, Bool.false_or, Bool.and_self, Bool.true_and, Bool.and_true, Bool.or_self, z10, z01, zm0, nz1, nz0, cnt0])
  -- the rains come back
  have back : ∀ (n i : Nat) (m : Mem), i + n = 20 → (∀ j, j < 20 → rd m 48 0 j = nI (A.R j)) → (∀ j, j < i → rd m 39 0 j = nI (A.R j)) → Sm FSw u m → RunB (d + 4) Y_M_showerOf 13 [some (.inr (.inr (8, 0))), some (.inl (nI c)), some (.inl (nI last)), some (.inl (nI til)), some (.inl (nI w)), some (.inr (.inl (lN (shX A c last til)))), none, some (.inl (nI i)), none, none, none] [] m Q := by
    intro n
    induction n with
    | zero =>
      intro i m hi ht hr hs
      have hm : MF A m := h.keep fun c j hk => by
        by_cases e : c = 39 ∧ j < 20
        · rw [e.1, hr j (by omega)]; exact (hR j e.2).1.symm
        · exact hs.1 _ _ _ (fun z => by have := fun q => flm_krf c 0 j q hk; simp only [KRF, KR] at hk; omega)
      have hq := hq m hm (KK.sm hs fun c i j z => by omega)
      (refine rb_M_showerOf_13 ?_; simp only [bk_M_showerOf_13, gr_lconst, pL_c, oL_c, kL_p, kL_m, gr_lstore, st2, clr_0, clr_s, sk_0, sk_s, gr_iconst, gr_istore, st1, gr_iload, gr_bipush, gr_ificmp_ge, gr_aloadn, gr_getfield, fm_8_26, NI_8, fm_8_11, gr_iaload, gr_iastore, gr_iinc, gr_goto, gr_iloadn, gr_ishl, gr_ificmp_gt, gr_invokestatic, ps_0, ps_s, pu_n, pu_s, ct_0, ct_i, ct_l, ct_r, gr_ifCond_eq, gr_lload, gr_i2l, gr_isub, gr_lmul, gr_invokevirtual, gr_ificmp_eq, gr_ladd, gr_iadd, gr_imul, gr_lshl, gr_lreturn, NI_39, ia_39, ln_39, al_39, NI_48, ia_48, ln_48, al_48, gr_nil, pI_c, pR_c, oI_c, oR_c, lg_i, lg_l, lg_r, lg_n, kI_p, kI_m, lk_0, lk_s, ar_n, ar_c, if_true, if_false, List.replicate, Nat.reduceAdd, Nat.reduceSub, Nat.reduceLeDiff, Nat.reduceEqDiff, Nat.reduceLT, reduceIte, true_and, and_true, true_implies, false_implies, implies_true, eq_self, not_true_eq_false, not_false_eq_true, Bool.false_eq_true, reduceCtorEq, forall_const, List.headD_cons, Nat.zero_add, true_or, or_true, ne_eq, false_and, and_false, false_or, or_false, Nat.reduceBEq, Bool.false_and, Bool.and_false, Bool.or_false, Bool.false_or, Bool.and_self, Bool.true_and, Bool.and_true, Bool.or_self, z10, z01, zm0, nz1, nz0, cnt0])
      refine ⟨fun _ => ?_, fun h => absurd (nI_le (by omega) (by omega)) h⟩
      (refine rb_M_showerOf_14 ?_; simp only [bk_M_showerOf_14, gr_lconst, pL_c, oL_c, kL_p, kL_m, gr_lstore, st2, clr_0, clr_s, sk_0, sk_s, gr_iconst, gr_istore, st1, gr_iload, gr_bipush, gr_ificmp_ge, gr_aloadn, gr_getfield, fm_8_26, NI_8, fm_8_11, gr_iaload, gr_iastore, gr_iinc, gr_goto, gr_iloadn, gr_ishl, gr_ificmp_gt, gr_invokestatic, ps_0, ps_s, pu_n, pu_s, ct_0, ct_i, ct_l, ct_r, gr_ifCond_eq, gr_lload, gr_i2l, gr_isub, gr_lmul, gr_invokevirtual, gr_ificmp_eq, gr_ladd, gr_iadd, gr_imul, gr_lshl, gr_lreturn, NI_39, ia_39, ln_39, al_39, NI_48, ia_48, ln_48, al_48, gr_nil, pI_c, pR_c, oI_c, oR_c, lg_i, lg_l, lg_r, lg_n, kI_p, kI_m, lk_0, lk_s, ar_n, ar_c, if_true, if_false, List.replicate, Nat.reduceAdd, Nat.reduceSub, Nat.reduceLeDiff, Nat.reduceEqDiff, Nat.reduceLT, reduceIte, true_and, and_true, true_implies, false_implies, implies_true, eq_self, not_true_eq_false, not_false_eq_true, Bool.false_eq_true, reduceCtorEq, forall_const, List.headD_cons, Nat.zero_add, true_or, or_true, ne_eq, false_and, and_false, false_or, or_false, Nat.reduceBEq, Bool.false_and, Bool.and_false, Bool.or_false, Bool.false_or, Bool.and_self, Bool.true_and, Bool.and_true, Bool.or_self, z10, z01, zm0, nz1, nz0, cnt0])
      simp (disch := omega) only [nI_leI, nI_ltI, nI_eq, nI_add, pk_mul, nI_clamp, vp_nI, nI_lt0, nI_ge0, nI_eq0, nI_gt0, nI_le0, nI_neg1, neg1_nI, Nat.not_le, Nat.not_lt, if_true, if_false, true_and, and_true, true_implies, false_implies, implies_true, not_true_eq_false, not_false_eq_true, reduceIte, false_or, or_false, false_and, and_false, true_or, or_true]
      rw [shl16 _ (by omega)]
      refine c_M_part (by omega) (by omega) hy0 hw ?_
      simp only [gr_lconst, pL_c, oL_c, kL_p, kL_m, gr_lstore, st2, clr_0, clr_s, sk_0, sk_s, gr_iconst, gr_istore, st1, gr_iload, gr_bipush, gr_ificmp_ge, gr_aloadn, gr_getfield, fm_8_26, NI_8, fm_8_11, gr_iaload, gr_iastore, gr_iinc, gr_goto, gr_iloadn, gr_ishl, gr_ificmp_gt, gr_invokestatic, ps_0, ps_s, pu_n, pu_s, ct_0, ct_i, ct_l, ct_r, gr_ifCond_eq, gr_lload, gr_i2l, gr_isub, gr_lmul, gr_invokevirtual, gr_ificmp_eq, gr_ladd, gr_iadd, gr_imul, gr_lshl, gr_lreturn, NI_39, ia_39, ln_39, al_39, NI_48, ia_48, ln_48, al_48, gr_nil, pI_c, pR_c, oI_c, oR_c, lg_i, lg_l, lg_r, lg_n, kI_p, kI_m, lk_0, lk_s, ar_n, ar_c, if_true, if_false, List.replicate, Nat.reduceAdd, Nat.reduceSub, Nat.reduceLeDiff, Nat.reduceEqDiff, Nat.reduceLT, reduceIte, true_and, and_true, true_implies, false_implies, implies_true, eq_self, not_true_eq_false, not_false_eq_true, Bool.false_eq_true, reduceCtorEq, forall_const, List.headD_cons, Nat.zero_add, true_or, or_true, ne_eq, false_and, and_false, false_or, or_false, Nat.reduceBEq, Bool.false_and, Bool.and_false, Bool.or_false, Bool.false_or, Bool.and_self, Bool.true_and, Bool.and_true, Bool.or_self, z10, z01, zm0, nz1, nz0, cnt0]
      unfold shV at hq
      by_cases e : w = 0
      · rw [if_pos e] at hq ⊢; exact hq
      · rw [if_neg e] at hq ⊢; exact hq
    | succ n ih =>
      intro i m hi ht hr hs
      (refine rb_M_showerOf_13 ?_; simp only [bk_M_showerOf_13, gr_lconst, pL_c, oL_c, kL_p, kL_m, gr_lstore, st2, clr_0, clr_s, sk_0, sk_s, gr_iconst, gr_istore, st1, gr_iload, gr_bipush, gr_ificmp_ge, gr_aloadn, gr_getfield, fm_8_26, NI_8, fm_8_11, gr_iaload, gr_iastore, gr_iinc, gr_goto, gr_iloadn, gr_ishl, gr_ificmp_gt, gr_invokestatic, ps_0, ps_s, pu_n, pu_s, ct_0, ct_i, ct_l, ct_r, gr_ifCond_eq, gr_lload, gr_i2l, gr_isub, gr_lmul, gr_invokevirtual, gr_ificmp_eq, gr_ladd, gr_iadd, gr_imul, gr_lshl, gr_lreturn, NI_39, ia_39, ln_39, al_39, NI_48, ia_48, ln_48, al_48, gr_nil, pI_c, pR_c, oI_c, oR_c, lg_i, lg_l, lg_r, lg_n, kI_p, kI_m, lk_0, lk_s, ar_n, ar_c, if_true, if_false, List.replicate, Nat.reduceAdd, Nat.reduceSub, Nat.reduceLeDiff, Nat.reduceEqDiff, Nat.reduceLT, reduceIte, true_and, and_true, true_implies, false_implies, implies_true, eq_self, not_true_eq_false, not_false_eq_true, Bool.false_eq_true, reduceCtorEq, forall_const, List.headD_cons, Nat.zero_add, true_or, or_true, ne_eq, false_and, and_false, false_or, or_false, Nat.reduceBEq, Bool.false_and, Bool.and_false, Bool.or_false, Bool.false_or, Bool.and_self, Bool.true_and, Bool.and_true, Bool.or_self, z10, z01, zm0, nz1, nz0, cnt0])
      refine ⟨fun h => absurd h (nI_ge (by omega) (by omega)), fun _ => ?_⟩
      simp (disch := omega) only [nI_leI, nI_ltI, nI_eq, nI_add, pk_mul, nI_clamp, vp_nI, nI_lt0, nI_ge0, nI_eq0, nI_gt0, nI_le0, nI_neg1, neg1_nI, Nat.not_le, Nat.not_lt, if_true, if_false, true_and, and_true, true_implies, false_implies, implies_true, not_true_eq_false, not_false_eq_true, reduceIte, false_or, or_false, false_and, and_false, true_or, or_true, ht i (by omega)]
      refine ⟨by omega, by omega, ih (i + 1) _ (by omega) (fun j hj => by rw [rd_wr, if_neg (by omega)]; exact ht j hj) (fun j hj => ?_) (hs.wr _ (by omega))⟩
      simp only [rd_wr, true_and]
      split
      · next e => rw [e]
      · exact hr j (by omega)
  -- all chances
  have some1 : ∀ (n s : Nat) (m : Mem), s + n = 2 ^ (last + 1) → (∀ j, j < 20 → rd m 48 0 j = nI (A.R j)) → (∀ j, last < j → j < 20 → rd m 39 0 j = nI (A.R j)) → Sm FSw u m → RunB (d + 4) Y_M_showerOf 3 [some (.inr (.inr (8, 0))), some (.inl (nI c)), some (.inl (nI last)), some (.inl (nI til)), some (.inl (nI w)), some (.inr (.inl (lN (abN A c last til s)))), none, some (.inl (nI s)), none, none, none] [] m Q := by
    intro n
    induction n with
    | zero =>
      intro s m hi ht hr hs
      (refine rb_M_showerOf_3 ?_; simp only [bk_M_showerOf_3, gr_lconst, pL_c, oL_c, kL_p, kL_m, gr_lstore, st2, clr_0, clr_s, sk_0, sk_s, gr_iconst, gr_istore, st1, gr_iload, gr_bipush, gr_ificmp_ge, gr_aloadn, gr_getfield, fm_8_26, NI_8, fm_8_11, gr_iaload, gr_iastore, gr_iinc, gr_goto, gr_iloadn, gr_ishl, gr_ificmp_gt, gr_invokestatic, ps_0, ps_s, pu_n, pu_s, ct_0, ct_i, ct_l, ct_r, gr_ifCond_eq, gr_lload, gr_i2l, gr_isub, gr_lmul, gr_invokevirtual, gr_ificmp_eq, gr_ladd, gr_iadd, gr_imul, gr_lshl, gr_lreturn, NI_39, ia_39, ln_39, al_39, NI_48, ia_48, ln_48, al_48, gr_nil, pI_c, pR_c, oI_c, oR_c, lg_i, lg_l, lg_r, lg_n, kI_p, kI_m, lk_0, lk_s, ar_n, ar_c, if_true, if_false, List.replicate, Nat.reduceAdd, Nat.reduceSub, Nat.reduceLeDiff, Nat.reduceEqDiff, Nat.reduceLT, reduceIte, true_and, and_true, true_implies, false_implies, implies_true, eq_self, not_true_eq_false, not_false_eq_true, Bool.false_eq_true, reduceCtorEq, forall_const, List.headD_cons, Nat.zero_add, true_or, or_true, ne_eq, false_and, and_false, false_or, or_false, Nat.reduceBEq, Bool.false_and, Bool.and_false, Bool.or_false, Bool.false_or, Bool.and_self, Bool.true_and, Bool.and_true, Bool.or_self, z10, z01, zm0, nz1, nz0, cnt0])
      rw [shl2 last (by omega)]
      refine ⟨fun _ => ?_, fun h => absurd (nI_le (by omega) (by omega)) h⟩
      (refine rb_M_showerOf_12 ?_; simp only [bk_M_showerOf_12, gr_lconst, pL_c, oL_c, kL_p, kL_m, gr_lstore, st2, clr_0, clr_s, sk_0, sk_s, gr_iconst, gr_istore, st1, gr_iload, gr_bipush, gr_ificmp_ge, gr_aloadn, gr_getfield, fm_8_26, NI_8, fm_8_11, gr_iaload, gr_iastore, gr_iinc, gr_goto, gr_iloadn, gr_ishl, gr_ificmp_gt, gr_invokestatic, ps_0, ps_s, pu_n, pu_s, ct_0, ct_i, ct_l, ct_r, gr_ifCond_eq, gr_lload, gr_i2l, gr_isub, gr_lmul, gr_invokevirtual, gr_ificmp_eq, gr_ladd, gr_iadd, gr_imul, gr_lshl, gr_lreturn, NI_39, ia_39, ln_39, al_39, NI_48, ia_48, ln_48, al_48, gr_nil, pI_c, pR_c, oI_c, oR_c, lg_i, lg_l, lg_r, lg_n, kI_p, kI_m, lk_0, lk_s, ar_n, ar_c, if_true, if_false, List.replicate, Nat.reduceAdd, Nat.reduceSub, Nat.reduceLeDiff, Nat.reduceEqDiff, Nat.reduceLT, reduceIte, true_and, and_true, true_implies, false_implies, implies_true, eq_self, not_true_eq_false, not_false_eq_true, Bool.false_eq_true, reduceCtorEq, forall_const, List.headD_cons, Nat.zero_add, true_or, or_true, ne_eq, false_and, and_false, false_or, or_false, Nat.reduceBEq, Bool.false_and, Bool.and_false, Bool.or_false, Bool.false_or, Bool.and_self, Bool.true_and, Bool.and_true, Bool.or_self, z10, z01, zm0, nz1, nz0, cnt0])
      rw [show s = 2 ^ (last + 1) by omega, ab_eq A hc hla]
      exact run_le (back 20 0 m (by omega) ht (fun j hj => by omega) hs) (by simp [leL])
    | succ n ih =>
      intro s m hi ht hr hs
      have hs31 : s < 2 ^ 31 := by omega
      have days : ∀ (k i : Nat) (m : Mem), i + k = last + 1 → (∀ j, j < 20 → rd m 48 0 j = nI (A.R j)) → (∀ j, last < j → j < 20 → rd m 39 0 j = nI (A.R j)) → (∀ j, j < i → rd m 39 0 j = nI (rA A last 0 s j)) → Sm FSw u m → RunB (d + 4) Y_M_showerOf 4 [some (.inr (.inr (8, 0))), some (.inl (nI c)), some (.inl (nI last)), some (.inl (nI til)), some (.inl (nI w)), some (.inr (.inl (lN (abN A c last til s)))), none, some (.inl (nI s)), some (.inr (.inl (lN (wtN c s i)))), none, some (.inl (nI i))] [] m Q := by
        intro k
        induction k with
        | zero =>
          intro i m hi2 ht hr hr2 hs
          have hie : i = last + 1 := by omega
          subst hie
          (refine rb_M_showerOf_4 ?_; simp only [bk_M_showerOf_4, gr_lconst, pL_c, oL_c, kL_p, kL_m, gr_lstore, st2, clr_0, clr_s, sk_0, sk_s, gr_iconst, gr_istore, st1, gr_iload, gr_bipush, gr_ificmp_ge, gr_aloadn, gr_getfield, fm_8_26, NI_8, fm_8_11, gr_iaload, gr_iastore, gr_iinc, gr_goto, gr_iloadn, gr_ishl, gr_ificmp_gt, gr_invokestatic, ps_0, ps_s, pu_n, pu_s, ct_0, ct_i, ct_l, ct_r, gr_ifCond_eq, gr_lload, gr_i2l, gr_isub, gr_lmul, gr_invokevirtual, gr_ificmp_eq, gr_ladd, gr_iadd, gr_imul, gr_lshl, gr_lreturn, NI_39, ia_39, ln_39, al_39, NI_48, ia_48, ln_48, al_48, gr_nil, pI_c, pR_c, oI_c, oR_c, lg_i, lg_l, lg_r, lg_n, kI_p, kI_m, lk_0, lk_s, ar_n, ar_c, if_true, if_false, List.replicate, Nat.reduceAdd, Nat.reduceSub, Nat.reduceLeDiff, Nat.reduceEqDiff, Nat.reduceLT, reduceIte, true_and, and_true, true_implies, false_implies, implies_true, eq_self, not_true_eq_false, not_false_eq_true, Bool.false_eq_true, reduceCtorEq, forall_const, List.headD_cons, Nat.zero_add, true_or, or_true, ne_eq, false_and, and_false, false_or, or_false, Nat.reduceBEq, Bool.false_and, Bool.and_false, Bool.or_false, Bool.false_or, Bool.and_self, Bool.true_and, Bool.and_true, Bool.or_self, z10, z01, zm0, nz1, nz0, cnt0])
          refine ⟨fun _ => ?_, fun z => absurd (nI_lt (by omega) (by omega)) z⟩
          (refine rb_M_showerOf_9 ?_; simp only [bk_M_showerOf_9, gr_lconst, pL_c, oL_c, kL_p, kL_m, gr_lstore, st2, clr_0, clr_s, sk_0, sk_s, gr_iconst, gr_istore, st1, gr_iload, gr_bipush, gr_ificmp_ge, gr_aloadn, gr_getfield, fm_8_26, NI_8, fm_8_11, gr_iaload, gr_iastore, gr_iinc, gr_goto, gr_iloadn, gr_ishl, gr_ificmp_gt, gr_invokestatic, ps_0, ps_s, pu_n, pu_s, ct_0, ct_i, ct_l, ct_r, gr_ifCond_eq, gr_lload, gr_i2l, gr_isub, gr_lmul, gr_invokevirtual, gr_ificmp_eq, gr_ladd, gr_iadd, gr_imul, gr_lshl, gr_lreturn, NI_39, ia_39, ln_39, al_39, NI_48, ia_48, ln_48, al_48, gr_nil, pI_c, pR_c, oI_c, oR_c, lg_i, lg_l, lg_r, lg_n, kI_p, kI_m, lk_0, lk_s, ar_n, ar_c, if_true, if_false, List.replicate, Nat.reduceAdd, Nat.reduceSub, Nat.reduceLeDiff, Nat.reduceEqDiff, Nat.reduceLT, reduceIte, true_and, and_true, true_implies, false_implies, implies_true, eq_self, not_true_eq_false, not_false_eq_true, Bool.false_eq_true, reduceCtorEq, forall_const, List.headD_cons, Nat.zero_add, true_or, or_true, ne_eq, false_and, and_false, false_or, or_false, Nat.reduceBEq, Bool.false_and, Bool.and_false, Bool.or_false, Bool.false_or, Bool.and_self, Bool.true_and, Bool.and_true, Bool.or_self, z10, z01, zm0, nz1, nz0, cnt0])
          have kk : ∀ c j, KR c j ∨ c = 37 ∨ c = 38 ∨ c = 40 ∨ (c = 8 ∧ j = 7) → rd m c 0 j = rd u c 0 j := fun c j hk => hs.1 _ _ _ (by simp only [KR] at hk; omega)
          have hm1 : MIn A m := h.1.keep fun c j hk => kk c j (Or.inl hk)
          refine c_M_lives (S := A.S) (R := rA A last 0 s) (TO_A hm1.2.1 A.S rfl rfl rfl rfl) (h.2.1.keep (kk _ _ (by simp)) (fun j => ⟨kk _ _ (by simp), kk _ _ (by simp)⟩)) (fun b hb => ?_) (fun m2 hk2 hs2 => ?_)
          · by_cases e : b ≤ last
            · refine ⟨hr2 b (by omega), ?_⟩
              have := (hR b hb).2
              unfold rA
              split
              · split <;> omega
              · exact this
            · have e2 : rA A last 0 s b = A.R b := by unfold rA; rw [if_neg (by omega)]
              rw [e2]
              exact ⟨hr b (by omega) hb, (hR b hb).2⟩
          · have hs3 : Sm FSw u m2 := hs.tr (hs2.wk fun c i j z => Or.inl z)
            simp only [gr_lconst, pL_c, oL_c, kL_p, kL_m, gr_lstore, st2, clr_0, clr_s, sk_0, sk_s, gr_iconst, gr_istore, st1, gr_iload, gr_bipush, gr_ificmp_ge, gr_aloadn, gr_getfield, fm_8_26, NI_8, fm_8_11, gr_iaload, gr_iastore, gr_iinc, gr_goto, gr_iloadn, gr_ishl, gr_ificmp_gt, gr_invokestatic, ps_0, ps_s, pu_n, pu_s, ct_0, ct_i, ct_l, ct_r, gr_ifCond_eq, gr_lload, gr_i2l, gr_isub, gr_lmul, gr_invokevirtual, gr_ificmp_eq, gr_ladd, gr_iadd, gr_imul, gr_lshl, gr_lreturn, NI_39, ia_39, ln_39, al_39, NI_48, ia_48, ln_48, al_48, gr_nil, pI_c, pR_c, oI_c, oR_c, lg_i, lg_l, lg_r, lg_n, kI_p, kI_m, lk_0, lk_s, ar_n, ar_c, if_true, if_false, List.replicate, Nat.reduceAdd, Nat.reduceSub, Nat.reduceLeDiff, Nat.reduceEqDiff, Nat.reduceLT, reduceIte, true_and, and_true, true_implies, false_implies, implies_true, eq_self, not_true_eq_false, not_false_eq_true, Bool.false_eq_true, reduceCtorEq, forall_const, List.headD_cons, Nat.zero_add, true_or, or_true, ne_eq, false_and, and_false, false_or, or_false, Nat.reduceBEq, Bool.false_and, Bool.and_false, Bool.or_false, Bool.false_or, Bool.and_self, Bool.true_and, Bool.and_true, Bool.or_self, z10, z01, zm0, nz1, nz0, cnt0]
            refine c_M_daysBy (w := 1) (V := A.V) (by omega) (fun c hc => by rw [hs3.1 _ _ _ (by omega)]; exact h.2.2.2 c hc) hk2 ?_
            rw [if_neg (by omega)]
            have hlat := lat_fo A til (rA A last 0 s) 20 0 rfl
            rw [show wall A.S (rA A last 0 s) 0 = w0 from rfl, A_lc] at hlat
            have fin : ∀ (x : Nat) (y : Option MV), x = (if latR A til (rA A last 0 s) 21 0 w0 = true then wtN c s (last + 1) else 0) → RunB (d + 4) Y_M_showerOf 11 [some (.inr (.inr (8, 0))), some (.inl (nI c)), some (.inl (nI last)), some (.inl (nI til)), some (.inl (nI w)), some (.inr (.inl (lN (abN A c last til s)))), none, some (.inl (nI s)), some (.inr (.inl (lN (wtN c s (last + 1))))), none, y] [.inr (.inl (lN x)), .inr (.inl (lN (abN A c last til s)))] m2 Q := by
              intro x y hx
              (refine rb_M_showerOf_11 ?_; simp only [bk_M_showerOf_11, gr_lconst, pL_c, oL_c, kL_p, kL_m, gr_lstore, st2, clr_0, clr_s, sk_0, sk_s, gr_iconst, gr_istore, st1, gr_iload, gr_bipush, gr_ificmp_ge, gr_aloadn, gr_getfield, fm_8_26, NI_8, fm_8_11, gr_iaload, gr_iastore, gr_iinc, gr_goto, gr_iloadn, gr_ishl, gr_ificmp_gt, gr_invokestatic, ps_0, ps_s, pu_n, pu_s, ct_0, ct_i, ct_l, ct_r, gr_ifCond_eq, gr_lload, gr_i2l, gr_isub, gr_lmul, gr_invokevirtual, gr_ificmp_eq, gr_ladd, gr_iadd, gr_imul, gr_lshl, gr_lreturn, NI_39, ia_39, ln_39, al_39, NI_48, ia_48, ln_48, al_48, gr_nil, pI_c, pR_c, oI_c, oR_c, lg_i, lg_l, lg_r, lg_n, kI_p, kI_m, lk_0, lk_s, ar_n, ar_c, if_true, if_false, List.replicate, Nat.reduceAdd, Nat.reduceSub, Nat.reduceLeDiff, Nat.reduceEqDiff, Nat.reduceLT, reduceIte, true_and, and_true, true_implies, false_implies, implies_true, eq_self, not_true_eq_false, not_false_eq_true, Bool.false_eq_true, reduceCtorEq, forall_const, List.headD_cons, Nat.zero_add, true_or, or_true, ne_eq, false_and, and_false, false_or, or_false, Nat.reduceBEq, Bool.false_and, Bool.and_false, Bool.or_false, Bool.false_or, Bool.and_self, Bool.true_and, Bool.and_true, Bool.or_self, z10, z01, zm0, nz1, nz0, cnt0])
              rw [lN_add, nI_add]
              have := ih (s + 1) m2 (by omega) (fun j hj => by rw [hs2.1 _ _ _ (by omega)]; exact ht j hj) (fun j h1 h2 => by rw [hs2.1 _ _ _ (by omega)]; exact hr j h1 h2) hs3
              rw [show abN A c last til (s + 1) = abN A c last til s + x by rw [hx]; rfl] at this
              exact run_le this (by simp [leL])
            simp only [gr_lconst, pL_c, oL_c, kL_p, kL_m, gr_lstore, st2, clr_0, clr_s, sk_0, sk_s, gr_iconst, gr_istore, st1, gr_iload, gr_bipush, gr_ificmp_ge, gr_aloadn, gr_getfield, fm_8_26, NI_8, fm_8_11, gr_iaload, gr_iastore, gr_iinc, gr_goto, gr_iloadn, gr_ishl, gr_ificmp_gt, gr_invokestatic, ps_0, ps_s, pu_n, pu_s, ct_0, ct_i, ct_l, ct_r, gr_ifCond_eq, gr_lload, gr_i2l, gr_isub, gr_lmul, gr_invokevirtual, gr_ificmp_eq, gr_ladd, gr_iadd, gr_imul, gr_lshl, gr_lreturn, NI_39, ia_39, ln_39, al_39, NI_48, ia_48, ln_48, al_48, gr_nil, pI_c, pR_c, oI_c, oR_c, lg_i, lg_l, lg_r, lg_n, kI_p, kI_m, lk_0, lk_s, ar_n, ar_c, if_true, if_false, List.replicate, Nat.reduceAdd, Nat.reduceSub, Nat.reduceLeDiff, Nat.reduceEqDiff, Nat.reduceLT, reduceIte, true_and, and_true, true_implies, false_implies, implies_true, eq_self, not_true_eq_false, not_false_eq_true, Bool.false_eq_true, reduceCtorEq, forall_const, List.headD_cons, Nat.zero_add, true_or, or_true, ne_eq, false_and, and_false, false_or, or_false, Nat.reduceBEq, Bool.false_and, Bool.and_false, Bool.or_false, Bool.false_or, Bool.and_self, Bool.true_and, Bool.and_true, Bool.or_self, z10, z01, zm0, nz1, nz0, cnt0]
            rcases foN_lt A.V (nlN A.V 6) (fct A.S (rA A last 0 s)) 20 0 with e | ⟨x, e1, e2, e3⟩
            · rw [e] at hlat ⊢
              have hf : ¬ latR A til (rA A last 0 s) 21 0 w0 = true := fun z => by
                obtain ⟨x, q1, _, _, q4⟩ := hlat.mp z
                rw [neg1_nI (by omega)] at q1
                exact q1
              refine ⟨fun _ => ?_, fun z => absurd rfl z⟩
              (refine rb_M_showerOf_10 ?_; simp only [bk_M_showerOf_10, gr_lconst, pL_c, oL_c, kL_p, kL_m, gr_lstore, st2, clr_0, clr_s, sk_0, sk_s, gr_iconst, gr_istore, st1, gr_iload, gr_bipush, gr_ificmp_ge, gr_aloadn, gr_getfield, fm_8_26, NI_8, fm_8_11, gr_iaload, gr_iastore, gr_iinc, gr_goto, gr_iloadn, gr_ishl, gr_ificmp_gt, gr_invokestatic, ps_0, ps_s, pu_n, pu_s, ct_0, ct_i, ct_l, ct_r, gr_ifCond_eq, gr_lload, gr_i2l, gr_isub, gr_lmul, gr_invokevirtual, gr_ificmp_eq, gr_ladd, gr_iadd, gr_imul, gr_lshl, gr_lreturn, NI_39, ia_39, ln_39, al_39, NI_48, ia_48, ln_48, al_48, gr_nil, pI_c, pR_c, oI_c, oR_c, lg_i, lg_l, lg_r, lg_n, kI_p, kI_m, lk_0, lk_s, ar_n, ar_c, if_true, if_false, List.replicate, Nat.reduceAdd, Nat.reduceSub, Nat.reduceLeDiff, Nat.reduceEqDiff, Nat.reduceLT, reduceIte, true_and, and_true, true_implies, false_implies, implies_true, eq_self, not_true_eq_false, not_false_eq_true, Bool.false_eq_true, reduceCtorEq, forall_const, List.headD_cons, Nat.zero_add, true_or, or_true, ne_eq, false_and, and_false, false_or, or_false, Nat.reduceBEq, Bool.false_and, Bool.and_false, Bool.or_false, Bool.false_or, Bool.and_self, Bool.true_and, Bool.and_true, Bool.or_self, z10, z01, zm0, nz1, nz0, cnt0])
              exact fin 0 _ (by rw [if_neg hf])
            · rw [e3] at hlat ⊢
              refine ⟨fun z => by simp (disch := omega) only [nI_leI, nI_ltI, nI_eq, nI_add, pk_mul, nI_clamp, vp_nI, nI_lt0, nI_ge0, nI_eq0, nI_gt0, nI_le0, nI_neg1, neg1_nI, Nat.not_le, Nat.not_lt, if_true, if_false, true_and, and_true, true_implies, false_implies, implies_true, not_true_eq_false, not_false_eq_true, reduceIte, false_or, or_false, false_and, and_false, true_or, or_true] at z, fun _ => ⟨fun z => ?_, fun z => ?_⟩⟩
              · rw [nI_ltI (by omega) (by omega)] at z
                have hf : ¬ latR A til (rA A last 0 s) 21 0 w0 = true := fun q => by
                  obtain ⟨x', q1, _, q3, q4⟩ := hlat.mp q
                  rw [nI_eq (by omega) (by omega)] at q1
                  omega
                (refine rb_M_showerOf_10 ?_; simp only [bk_M_showerOf_10, gr_lconst, pL_c, oL_c, kL_p, kL_m, gr_lstore, st2, clr_0, clr_s, sk_0, sk_s, gr_iconst, gr_istore, st1, gr_iload, gr_bipush, gr_ificmp_ge, gr_aloadn, gr_getfield, fm_8_26, NI_8, fm_8_11, gr_iaload, gr_iastore, gr_iinc, gr_goto, gr_iloadn, gr_ishl, gr_ificmp_gt, gr_invokestatic, ps_0, ps_s, pu_n, pu_s, ct_0, ct_i, ct_l, ct_r, gr_ifCond_eq, gr_lload, gr_i2l, gr_isub, gr_lmul, gr_invokevirtual, gr_ificmp_eq, gr_ladd, gr_iadd, gr_imul, gr_lshl, gr_lreturn, NI_39, ia_39, ln_39, al_39, NI_48, ia_48, ln_48, al_48, gr_nil, pI_c, pR_c, oI_c, oR_c, lg_i, lg_l, lg_r, lg_n, kI_p, kI_m, lk_0, lk_s, ar_n, ar_c, if_true, if_false, List.replicate, Nat.reduceAdd, Nat.reduceSub, Nat.reduceLeDiff, Nat.reduceEqDiff, Nat.reduceLT, reduceIte, true_and, and_true, true_implies, false_implies, implies_true, eq_self, not_true_eq_false, not_false_eq_true, Bool.false_eq_true, reduceCtorEq, forall_const, List.headD_cons, Nat.zero_add, true_or, or_true, ne_eq, false_and, and_false, false_or, or_false, Nat.reduceBEq, Bool.false_and, Bool.and_false, Bool.or_false, Bool.false_or, Bool.and_self, Bool.true_and, Bool.and_true, Bool.or_self, z10, z01, zm0, nz1, nz0, cnt0])
                exact fin 0 _ (by rw [if_neg hf])
              · rw [nI_ltI (by omega) (by omega)] at z
                exact fin _ _ (by rw [if_pos (hlat.mpr ⟨x, rfl, by omega, by omega, by omega⟩)])
        | succ k ihk =>
          intro i m hi2 ht hr hr2 hs
          have ihk' := fun m => ihk (i + 1) m (by omega)
          simp only [wtN] at ihk'
          have ibit := isB_n (m := s) (k := i) hs31 (by omega)
          have rAi : rA A last 0 s i = if s / 2 ^ i % 2 = 1 then A.R i else 0 := by unfold rA; rw [if_pos (by omega), Nat.sub_zero]
          have J6 : ∀ m, (∀ j, j < 20 → rd m 48 0 j = nI (A.R j)) → (∀ j, last < j → j < 20 → rd m 39 0 j = nI (A.R j)) → (∀ j, j < i → rd m 39 0 j = nI (rA A last 0 s j)) → Sm FSw u m → ∀ x, x = rA A last 0 s i → RunB (d + 4) Y_M_showerOf 6 [some (.inr (.inr (8, 0))), some (.inl (nI c)), some (.inl (nI last)), some (.inl (nI til)), some (.inl (nI w)), some (.inr (.inl (lN (abN A c last til s)))), none, some (.inl (nI s)), some (.inr (.inl (lN (wtN c s i)))), none, some (.inl (nI i))] [.inl (nI x), .inl (nI i), .inr (.inr (39, 0))] m Q := by
            intro m ht hr hr2 hs x hx
            have fin : ∀ y, y = (if s / 2 ^ i % 2 = 1 then c else 16 - c) → RunB (d + 4) Y_M_showerOf 8 [some (.inr (.inr (8, 0))), some (.inl (nI c)), some (.inl (nI last)), some (.inl (nI til)), some (.inl (nI w)), some (.inr (.inl (lN (abN A c last til s)))), none, some (.inl (nI s)), some (.inr (.inl (lN (wtN c s i)))), none, some (.inl (nI i))] [.inr (.inl (lN y)), .inr (.inl (lN (wtN c s i)))] (wr m 39 0 i (nI x)) Q := by
              intro y hy
              (refine rb_M_showerOf_8 ?_; simp only [bk_M_showerOf_8, gr_lconst, pL_c, oL_c, kL_p, kL_m, gr_lstore, st2, clr_0, clr_s, sk_0, sk_s, gr_iconst, gr_istore, st1, gr_iload, gr_bipush, gr_ificmp_ge, gr_aloadn, gr_getfield, fm_8_26, NI_8, fm_8_11, gr_iaload, gr_iastore, gr_iinc, gr_goto, gr_iloadn, gr_ishl, gr_ificmp_gt, gr_invokestatic, ps_0, ps_s, pu_n, pu_s, ct_0, ct_i, ct_l, ct_r, gr_ifCond_eq, gr_lload, gr_i2l, gr_isub, gr_lmul, gr_invokevirtual, gr_ificmp_eq, gr_ladd, gr_iadd, gr_imul, gr_lshl, gr_lreturn, NI_39, ia_39, ln_39, al_39, NI_48, ia_48, ln_48, al_48, gr_nil, pI_c, pR_c, oI_c, oR_c, lg_i, lg_l, lg_r, lg_n, kI_p, kI_m, lk_0, lk_s, ar_n, ar_c, if_true, if_false, List.replicate, Nat.reduceAdd, Nat.reduceSub, Nat.reduceLeDiff, Nat.reduceEqDiff, Nat.reduceLT, reduceIte, true_and, and_true, true_implies, false_implies, implies_true, eq_self, not_true_eq_false, not_false_eq_true, Bool.false_eq_true, reduceCtorEq, forall_const, List.headD_cons, Nat.zero_add, true_or, or_true, ne_eq, false_and, and_false, false_or, or_false, Nat.reduceBEq, Bool.false_and, Bool.and_false, Bool.or_false, Bool.false_or, Bool.and_self, Bool.true_and, Bool.and_true, Bool.or_self, z10, z01, zm0, nz1, nz0, cnt0])
              rw [lN_mul, nI_add]
              have := ihk' (wr m 39 0 i (nI x)) (fun j hj => by rw [rd_wr, if_neg (by omega)]; exact ht j hj) (fun j h1 h2 => by rw [rd_wr, if_neg (by omega)]; exact hr j h1 h2) (fun j hj => ?_) (hs.wr _ (by omega))
              · rw [← hy] at this
                exact run_le this (by simp [leL])
              · rw [rd_wr]
                by_cases e : j = i
                · rw [if_pos (by omega), e, hx]
                · rw [if_neg (by omega)]; exact hr2 j (by omega)
            (refine rb_M_showerOf_6 ?_; simp only [bk_M_showerOf_6, gr_lconst, pL_c, oL_c, kL_p, kL_m, gr_lstore, st2, clr_0, clr_s, sk_0, sk_s, gr_iconst, gr_istore, st1, gr_iload, gr_bipush, gr_ificmp_ge, gr_aloadn, gr_getfield, fm_8_26, NI_8, fm_8_11, gr_iaload, gr_iastore, gr_iinc, gr_goto, gr_iloadn, gr_ishl, gr_ificmp_gt, gr_invokestatic, ps_0, ps_s, pu_n, pu_s, ct_0, ct_i, ct_l, ct_r, gr_ifCond_eq, gr_lload, gr_i2l, gr_isub, gr_lmul, gr_invokevirtual, gr_ificmp_eq, gr_ladd, gr_iadd, gr_imul, gr_lshl, gr_lreturn, NI_39, ia_39, ln_39, al_39, NI_48, ia_48, ln_48, al_48, gr_nil, pI_c, pR_c, oI_c, oR_c, lg_i, lg_l, lg_r, lg_n, kI_p, kI_m, lk_0, lk_s, ar_n, ar_c, if_true, if_false, List.replicate, Nat.reduceAdd, Nat.reduceSub, Nat.reduceLeDiff, Nat.reduceEqDiff, Nat.reduceLT, reduceIte, true_and, and_true, true_implies, false_implies, implies_true, eq_self, not_true_eq_false, not_false_eq_true, Bool.false_eq_true, reduceCtorEq, forall_const, List.headD_cons, Nat.zero_add, true_or, or_true, ne_eq, false_and, and_false, false_or, or_false, Nat.reduceBEq, Bool.false_and, Bool.and_false, Bool.or_false, Bool.false_or, Bool.and_self, Bool.true_and, Bool.and_true, Bool.or_self, z10, z01, zm0, nz1, nz0, cnt0])
            simp (disch := omega) only [nI_leI, nI_ltI, nI_eq, nI_add, pk_mul, nI_clamp, vp_nI, nI_lt0, nI_ge0, nI_eq0, nI_gt0, nI_le0, nI_neg1, neg1_nI, Nat.not_le, Nat.not_lt, if_true, if_false, true_and, and_true, true_implies, false_implies, implies_true, not_true_eq_false, not_false_eq_true, reduceIte, false_or, or_false, false_and, and_false, true_or, or_true]
            refine ⟨by omega, ?_⟩
            refine c_M_isIn (fun g => ?_) (fun g => ?_)
            · simp only [gr_lconst, pL_c, oL_c, kL_p, kL_m, gr_lstore, st2, clr_0, clr_s, sk_0, sk_s, gr_iconst, gr_istore, st1, gr_iload, gr_bipush, gr_ificmp_ge, gr_aloadn, gr_getfield, fm_8_26, NI_8, fm_8_11, gr_iaload, gr_iastore, gr_iinc, gr_goto, gr_iloadn, gr_ishl, gr_ificmp_gt, gr_invokestatic, ps_0, ps_s, pu_n, pu_s, ct_0, ct_i, ct_l, ct_r, gr_ifCond_eq, gr_lload, gr_i2l, gr_isub, gr_lmul, gr_invokevirtual, gr_ificmp_eq, gr_ladd, gr_iadd, gr_imul, gr_lshl, gr_lreturn, NI_39, ia_39, ln_39, al_39, NI_48, ia_48, ln_48, al_48, gr_nil, pI_c, pR_c, oI_c, oR_c, lg_i, lg_l, lg_r, lg_n, kI_p, kI_m, lk_0, lk_s, ar_n, ar_c, if_true, if_false, List.replicate, Nat.reduceAdd, Nat.reduceSub, Nat.reduceLeDiff, Nat.reduceEqDiff, Nat.reduceLT, reduceIte, true_and, and_true, true_implies, false_implies, implies_true, eq_self, not_true_eq_false, not_false_eq_true, Bool.false_eq_true, reduceCtorEq, forall_const, List.headD_cons, Nat.zero_add, true_or, or_true, ne_eq, false_and, and_false, false_or, or_false, Nat.reduceBEq, Bool.false_and, Bool.and_false, Bool.or_false, Bool.false_or, Bool.and_self, Bool.true_and, Bool.and_true, Bool.or_self, z10, z01, zm0, nz1, nz0, cnt0]
              rw [nI_l (by omega)]
              exact fin c (by rw [if_pos (ibit.mp g)])
            · simp only [gr_lconst, pL_c, oL_c, kL_p, kL_m, gr_lstore, st2, clr_0, clr_s, sk_0, sk_s, gr_iconst, gr_istore, st1, gr_iload, gr_bipush, gr_ificmp_ge, gr_aloadn, gr_getfield, fm_8_26, NI_8, fm_8_11, gr_iaload, gr_iastore, gr_iinc, gr_goto, gr_iloadn, gr_ishl, gr_ificmp_gt, gr_invokestatic, ps_0, ps_s, pu_n, pu_s, ct_0, ct_i, ct_l, ct_r, gr_ifCond_eq, gr_lload, gr_i2l, gr_isub, gr_lmul, gr_invokevirtual, gr_ificmp_eq, gr_ladd, gr_iadd, gr_imul, gr_lshl, gr_lreturn, NI_39, ia_39, ln_39, al_39, NI_48, ia_48, ln_48, al_48, gr_nil, pI_c, pR_c, oI_c, oR_c, lg_i, lg_l, lg_r, lg_n, kI_p, kI_m, lk_0, lk_s, ar_n, ar_c, if_true, if_false, List.replicate, Nat.reduceAdd, Nat.reduceSub, Nat.reduceLeDiff, Nat.reduceEqDiff, Nat.reduceLT, reduceIte, true_and, and_true, true_implies, false_implies, implies_true, eq_self, not_true_eq_false, not_false_eq_true, Bool.false_eq_true, reduceCtorEq, forall_const, List.headD_cons, Nat.zero_add, true_or, or_true, ne_eq, false_and, and_false, false_or, or_false, Nat.reduceBEq, Bool.false_and, Bool.and_false, Bool.or_false, Bool.false_or, Bool.and_self, Bool.true_and, Bool.and_true, Bool.or_self, z10, z01, zm0, nz1, nz0, cnt0]
              (refine rb_M_showerOf_7 ?_; simp only [bk_M_showerOf_7, gr_lconst, pL_c, oL_c, kL_p, kL_m, gr_lstore, st2, clr_0, clr_s, sk_0, sk_s, gr_iconst, gr_istore, st1, gr_iload, gr_bipush, gr_ificmp_ge, gr_aloadn, gr_getfield, fm_8_26, NI_8, fm_8_11, gr_iaload, gr_iastore, gr_iinc, gr_goto, gr_iloadn, gr_ishl, gr_ificmp_gt, gr_invokestatic, ps_0, ps_s, pu_n, pu_s, ct_0, ct_i, ct_l, ct_r, gr_ifCond_eq, gr_lload, gr_i2l, gr_isub, gr_lmul, gr_invokevirtual, gr_ificmp_eq, gr_ladd, gr_iadd, gr_imul, gr_lshl, gr_lreturn, NI_39, ia_39, ln_39, al_39, NI_48, ia_48, ln_48, al_48, gr_nil, pI_c, pR_c, oI_c, oR_c, lg_i, lg_l, lg_r, lg_n, kI_p, kI_m, lk_0, lk_s, ar_n, ar_c, if_true, if_false, List.replicate, Nat.reduceAdd, Nat.reduceSub, Nat.reduceLeDiff, Nat.reduceEqDiff, Nat.reduceLT, reduceIte, true_and, and_true, true_implies, false_implies, implies_true, eq_self, not_true_eq_false, not_false_eq_true, Bool.false_eq_true, reduceCtorEq, forall_const, List.headD_cons, Nat.zero_add, true_or, or_true, ne_eq, false_and, and_false, false_or, or_false, Nat.reduceBEq, Bool.false_and, Bool.and_false, Bool.or_false, Bool.false_or, Bool.and_self, Bool.true_and, Bool.and_true, Bool.or_self, z10, z01, zm0, nz1, nz0, cnt0])
              rw [pk_sub (by omega), nI_l (by omega)]
              exact fin (16 - c) (by rw [if_neg (fun z => g (ibit.mpr z))])
          (refine rb_M_showerOf_4 ?_; simp only [bk_M_showerOf_4, gr_lconst, pL_c, oL_c, kL_p, kL_m, gr_lstore, st2, clr_0, clr_s, sk_0, sk_s, gr_iconst, gr_istore, st1, gr_iload, gr_bipush, gr_ificmp_ge, gr_aloadn, gr_getfield, fm_8_26, NI_8, fm_8_11, gr_iaload, gr_iastore, gr_iinc, gr_goto, gr_iloadn, gr_ishl, gr_ificmp_gt, gr_invokestatic, ps_0, ps_s, pu_n, pu_s, ct_0, ct_i, ct_l, ct_r, gr_ifCond_eq, gr_lload, gr_i2l, gr_isub, gr_lmul, gr_invokevirtual, gr_ificmp_eq, gr_ladd, gr_iadd, gr_imul, gr_lshl, gr_lreturn, NI_39, ia_39, ln_39, al_39, NI_48, ia_48, ln_48, al_48, gr_nil, pI_c, pR_c, oI_c, oR_c, lg_i, lg_l, lg_r, lg_n, kI_p, kI_m, lk_0, lk_s, ar_n, ar_c, if_true, if_false, List.replicate, Nat.reduceAdd, Nat.reduceSub, Nat.reduceLeDiff, Nat.reduceEqDiff, Nat.reduceLT, reduceIte, true_and, and_true, true_implies, false_implies, implies_true, eq_self, not_true_eq_false, not_false_eq_true, Bool.false_eq_true, reduceCtorEq, forall_const, List.headD_cons, Nat.zero_add, true_or, or_true, ne_eq, false_and, and_false, false_or, or_false, Nat.reduceBEq, Bool.false_and, Bool.and_false, Bool.or_false, Bool.false_or, Bool.and_self, Bool.true_and, Bool.and_true, Bool.or_self, z10, z01, zm0, nz1, nz0, cnt0])
          refine ⟨fun z => absurd z (nI_nlt (by omega) (by omega)), fun _ => ?_⟩
          refine c_M_isIn (fun g => ?_) (fun g => ?_)
          · simp only [gr_lconst, pL_c, oL_c, kL_p, kL_m, gr_lstore, st2, clr_0, clr_s, sk_0, sk_s, gr_iconst, gr_istore, st1, gr_iload, gr_bipush, gr_ificmp_ge, gr_aloadn, gr_getfield, fm_8_26, NI_8, fm_8_11, gr_iaload, gr_iastore, gr_iinc, gr_goto, gr_iloadn, gr_ishl, gr_ificmp_gt, gr_invokestatic, ps_0, ps_s, pu_n, pu_s, ct_0, ct_i, ct_l, ct_r, gr_ifCond_eq, gr_lload, gr_i2l, gr_isub, gr_lmul, gr_invokevirtual, gr_ificmp_eq, gr_ladd, gr_iadd, gr_imul, gr_lshl, gr_lreturn, NI_39, ia_39, ln_39, al_39, NI_48, ia_48, ln_48, al_48, gr_nil, pI_c, pR_c, oI_c, oR_c, lg_i, lg_l, lg_r, lg_n, kI_p, kI_m, lk_0, lk_s, ar_n, ar_c, if_true, if_false, List.replicate, Nat.reduceAdd, Nat.reduceSub, Nat.reduceLeDiff, Nat.reduceEqDiff, Nat.reduceLT, reduceIte, true_and, and_true, true_implies, false_implies, implies_true, eq_self, not_true_eq_false, not_false_eq_true, Bool.false_eq_true, reduceCtorEq, forall_const, List.headD_cons, Nat.zero_add, true_or, or_true, ne_eq, false_and, and_false, false_or, or_false, Nat.reduceBEq, Bool.false_and, Bool.and_false, Bool.or_false, Bool.false_or, Bool.and_self, Bool.true_and, Bool.and_true, Bool.or_self, z10, z01, zm0, nz1, nz0, cnt0]
            simp (disch := omega) only [nI_leI, nI_ltI, nI_eq, nI_add, pk_mul, nI_clamp, vp_nI, nI_lt0, nI_ge0, nI_eq0, nI_gt0, nI_le0, nI_neg1, neg1_nI, Nat.not_le, Nat.not_lt, if_true, if_false, true_and, and_true, true_implies, false_implies, implies_true, not_true_eq_false, not_false_eq_true, reduceIte, false_or, or_false, false_and, and_false, true_or, or_true, ht i (by omega)]
            exact ⟨by omega, J6 m ht hr hr2 hs (A.R i) (by rw [rAi, if_pos (ibit.mp g)])⟩
          · simp only [gr_lconst, pL_c, oL_c, kL_p, kL_m, gr_lstore, st2, clr_0, clr_s, sk_0, sk_s, gr_iconst, gr_istore, st1, gr_iload, gr_bipush, gr_ificmp_ge, gr_aloadn, gr_getfield, fm_8_26, NI_8, fm_8_11, gr_iaload, gr_iastore, gr_iinc, gr_goto, gr_iloadn, gr_ishl, gr_ificmp_gt, gr_invokestatic, ps_0, ps_s, pu_n, pu_s, ct_0, ct_i, ct_l, ct_r, gr_ifCond_eq, gr_lload, gr_i2l, gr_isub, gr_lmul, gr_invokevirtual, gr_ificmp_eq, gr_ladd, gr_iadd, gr_imul, gr_lshl, gr_lreturn, NI_39, ia_39, ln_39, al_39, NI_48, ia_48, ln_48, al_48, gr_nil, pI_c, pR_c, oI_c, oR_c, lg_i, lg_l, lg_r, lg_n, kI_p, kI_m, lk_0, lk_s, ar_n, ar_c, if_true, if_false, List.replicate, Nat.reduceAdd, Nat.reduceSub, Nat.reduceLeDiff, Nat.reduceEqDiff, Nat.reduceLT, reduceIte, true_and, and_true, true_implies, false_implies, implies_true, eq_self, not_true_eq_false, not_false_eq_true, Bool.false_eq_true, reduceCtorEq, forall_const, List.headD_cons, Nat.zero_add, true_or, or_true, ne_eq, false_and, and_false, false_or, or_false, Nat.reduceBEq, Bool.false_and, Bool.and_false, Bool.or_false, Bool.false_or, Bool.and_self, Bool.true_and, Bool.and_true, Bool.or_self, z10, z01, zm0, nz1, nz0, cnt0]
            (refine rb_M_showerOf_5 ?_; simp only [bk_M_showerOf_5, gr_lconst, pL_c, oL_c, kL_p, kL_m, gr_lstore, st2, clr_0, clr_s, sk_0, sk_s, gr_iconst, gr_istore, st1, gr_iload, gr_bipush, gr_ificmp_ge, gr_aloadn, gr_getfield, fm_8_26, NI_8, fm_8_11, gr_iaload, gr_iastore, gr_iinc, gr_goto, gr_iloadn, gr_ishl, gr_ificmp_gt, gr_invokestatic, ps_0, ps_s, pu_n, pu_s, ct_0, ct_i, ct_l, ct_r, gr_ifCond_eq, gr_lload, gr_i2l, gr_isub, gr_lmul, gr_invokevirtual, gr_ificmp_eq, gr_ladd, gr_iadd, gr_imul, gr_lshl, gr_lreturn, NI_39, ia_39, ln_39, al_39, NI_48, ia_48, ln_48, al_48, gr_nil, pI_c, pR_c, oI_c, oR_c, lg_i, lg_l, lg_r, lg_n, kI_p, kI_m, lk_0, lk_s, ar_n, ar_c, if_true, if_false, List.replicate, Nat.reduceAdd, Nat.reduceSub, Nat.reduceLeDiff, Nat.reduceEqDiff, Nat.reduceLT, reduceIte, true_and, and_true, true_implies, false_implies, implies_true, eq_self, not_true_eq_false, not_false_eq_true, Bool.false_eq_true, reduceCtorEq, forall_const, List.headD_cons, Nat.zero_add, true_or, or_true, ne_eq, false_and, and_false, false_or, or_false, Nat.reduceBEq, Bool.false_and, Bool.and_false, Bool.or_false, Bool.false_or, Bool.and_self, Bool.true_and, Bool.and_true, Bool.or_self, z10, z01, zm0, nz1, nz0, cnt0])
            exact J6 m ht hr hr2 hs 0 (by rw [rAi, if_neg (fun z => g (ibit.mpr z))])
      (refine rb_M_showerOf_3 ?_; simp only [bk_M_showerOf_3, gr_lconst, pL_c, oL_c, kL_p, kL_m, gr_lstore, st2, clr_0, clr_s, sk_0, sk_s, gr_iconst, gr_istore, st1, gr_iload, gr_bipush, gr_ificmp_ge, gr_aloadn, gr_getfield, fm_8_26, NI_8, fm_8_11, gr_iaload, gr_iastore, gr_iinc, gr_goto, gr_iloadn, gr_ishl, gr_ificmp_gt, gr_invokestatic, ps_0, ps_s, pu_n, pu_s, ct_0, ct_i, ct_l, ct_r, gr_ifCond_eq, gr_lload, gr_i2l, gr_isub, gr_lmul, gr_invokevirtual, gr_ificmp_eq, gr_ladd, gr_iadd, gr_imul, gr_lshl, gr_lreturn, NI_39, ia_39, ln_39, al_39, NI_48, ia_48, ln_48, al_48, gr_nil, pI_c, pR_c, oI_c, oR_c, lg_i, lg_l, lg_r, lg_n, kI_p, kI_m, lk_0, lk_s, ar_n, ar_c, if_true, if_false, List.replicate, Nat.reduceAdd, Nat.reduceSub, Nat.reduceLeDiff, Nat.reduceEqDiff, Nat.reduceLT, reduceIte, true_and, and_true, true_implies, false_implies, implies_true, eq_self, not_true_eq_false, not_false_eq_true, Bool.false_eq_true, reduceCtorEq, forall_const, List.headD_cons, Nat.zero_add, true_or, or_true, ne_eq, false_and, and_false, false_or, or_false, Nat.reduceBEq, Bool.false_and, Bool.and_false, Bool.or_false, Bool.false_or, Bool.and_self, Bool.true_and, Bool.and_true, Bool.or_self, z10, z01, zm0, nz1, nz0, cnt0])
      rw [shl2 last (by omega)]
      refine ⟨fun h => absurd h (nI_ge (by omega) (by omega)), fun _ => ?_⟩
      exact run_le (days (last + 1) 0 m (by omega) ht hr (fun j hj => by omega) hs) (by simp [leL, wtN])
  -- the rains are kept
  have keep : ∀ (n i : Nat) (m : Mem), i + n = 20 → (∀ j, j < i → rd m 48 0 j = nI (A.R j)) → (∀ j, rd m 39 0 j = rd u 39 0 j) → Sm FSw u m → RunB (d + 4) Y_M_showerOf 1 [some (.inr (.inr (8, 0))), some (.inl (nI c)), some (.inl (nI last)), some (.inl (nI til)), some (.inl (nI w)), some (.inr (.inl (lN 0))), none, some (.inl (nI i)), none, none, none] [] m Q := by
    intro n
    induction n with
    | zero =>
      intro i m hi ht hr hs
      (refine rb_M_showerOf_1 ?_; simp only [bk_M_showerOf_1, gr_lconst, pL_c, oL_c, kL_p, kL_m, gr_lstore, st2, clr_0, clr_s, sk_0, sk_s, gr_iconst, gr_istore, st1, gr_iload, gr_bipush, gr_ificmp_ge, gr_aloadn, gr_getfield, fm_8_26, NI_8, fm_8_11, gr_iaload, gr_iastore, gr_iinc, gr_goto, gr_iloadn, gr_ishl, gr_ificmp_gt, gr_invokestatic, ps_0, ps_s, pu_n, pu_s, ct_0, ct_i, ct_l, ct_r, gr_ifCond_eq, gr_lload, gr_i2l, gr_isub, gr_lmul, gr_invokevirtual, gr_ificmp_eq, gr_ladd, gr_iadd, gr_imul, gr_lshl, gr_lreturn, NI_39, ia_39, ln_39, al_39, NI_48, ia_48, ln_48, al_48, gr_nil, pI_c, pR_c, oI_c, oR_c, lg_i, lg_l, lg_r, lg_n, kI_p, kI_m, lk_0, lk_s, ar_n, ar_c, if_true, if_false, List.replicate, Nat.reduceAdd, Nat.reduceSub, Nat.reduceLeDiff, Nat.reduceEqDiff, Nat.reduceLT, reduceIte, true_and, and_true, true_implies, false_implies, implies_true, eq_self, not_true_eq_false, not_false_eq_true, Bool.false_eq_true, reduceCtorEq, forall_const, List.headD_cons, Nat.zero_add, true_or, or_true, ne_eq, false_and, and_false, false_or, or_false, Nat.reduceBEq, Bool.false_and, Bool.and_false, Bool.or_false, Bool.false_or, Bool.and_self, Bool.true_and, Bool.and_true, Bool.or_self, z10, z01, zm0, nz1, nz0, cnt0])
      refine ⟨fun _ => ?_, fun h => absurd (nI_le (by omega) (by omega)) h⟩
      (refine rb_M_showerOf_2 ?_; simp only [bk_M_showerOf_2, gr_lconst, pL_c, oL_c, kL_p, kL_m, gr_lstore, st2, clr_0, clr_s, sk_0, sk_s, gr_iconst, gr_istore, st1, gr_iload, gr_bipush, gr_ificmp_ge, gr_aloadn, gr_getfield, fm_8_26, NI_8, fm_8_11, gr_iaload, gr_iastore, gr_iinc, gr_goto, gr_iloadn, gr_ishl, gr_ificmp_gt, gr_invokestatic, ps_0, ps_s, pu_n, pu_s, ct_0, ct_i, ct_l, ct_r, gr_ifCond_eq, gr_lload, gr_i2l, gr_isub, gr_lmul, gr_invokevirtual, gr_ificmp_eq, gr_ladd, gr_iadd, gr_imul, gr_lshl, gr_lreturn, NI_39, ia_39, ln_39, al_39, NI_48, ia_48, ln_48, al_48, gr_nil, pI_c, pR_c, oI_c, oR_c, lg_i, lg_l, lg_r, lg_n, kI_p, kI_m, lk_0, lk_s, ar_n, ar_c, if_true, if_false, List.replicate, Nat.reduceAdd, Nat.reduceSub, Nat.reduceLeDiff, Nat.reduceEqDiff, Nat.reduceLT, reduceIte, true_and, and_true, true_implies, false_implies, implies_true, eq_self, not_true_eq_false, not_false_eq_true, Bool.false_eq_true, reduceCtorEq, forall_const, List.headD_cons, Nat.zero_add, true_or, or_true, ne_eq, false_and, and_false, false_or, or_false, Nat.reduceBEq, Bool.false_and, Bool.and_false, Bool.or_false, Bool.false_or, Bool.and_self, Bool.true_and, Bool.and_true, Bool.or_self, z10, z01, zm0, nz1, nz0, cnt0])
      exact some1 (2 ^ (last + 1)) 0 m (by omega) (fun j hj => ht j (by omega)) (fun j _ hj => by rw [hr]; exact (hR j hj).1) hs
    | succ n ih =>
      intro i m hi ht hr hs
      (refine rb_M_showerOf_1 ?_; simp only [bk_M_showerOf_1, gr_lconst, pL_c, oL_c, kL_p, kL_m, gr_lstore, st2, clr_0, clr_s, sk_0, sk_s, gr_iconst, gr_istore, st1, gr_iload, gr_bipush, gr_ificmp_ge, gr_aloadn, gr_getfield, fm_8_26, NI_8, fm_8_11, gr_iaload, gr_iastore, gr_iinc, gr_goto, gr_iloadn, gr_ishl, gr_ificmp_gt, gr_invokestatic, ps_0, ps_s, pu_n, pu_s, ct_0, ct_i, ct_l, ct_r, gr_ifCond_eq, gr_lload, gr_i2l, gr_isub, gr_lmul, gr_invokevirtual, gr_ificmp_eq, gr_ladd, gr_iadd, gr_imul, gr_lshl, gr_lreturn, NI_39, ia_39, ln_39, al_39, NI_48, ia_48, ln_48, al_48, gr_nil, pI_c, pR_c, oI_c, oR_c, lg_i, lg_l, lg_r, lg_n, kI_p, kI_m, lk_0, lk_s, ar_n, ar_c, if_true, if_false, List.replicate, Nat.reduceAdd, Nat.reduceSub, Nat.reduceLeDiff, Nat.reduceEqDiff, Nat.reduceLT, reduceIte, true_and, and_true, true_implies, false_implies, implies_true, eq_self, not_true_eq_false, not_false_eq_true, Bool.false_eq_true, reduceCtorEq, forall_const, List.headD_cons, Nat.zero_add, true_or, or_true, ne_eq, false_and, and_false, false_or, or_false, Nat.reduceBEq, Bool.false_and, Bool.and_false, Bool.or_false, Bool.false_or, Bool.and_self, Bool.true_and, Bool.and_true, Bool.or_self, z10, z01, zm0, nz1, nz0, cnt0])
      refine ⟨fun h => absurd h (nI_ge (by omega) (by omega)), fun _ => ?_⟩
      simp (disch := omega) only [nI_leI, nI_ltI, nI_eq, nI_add, pk_mul, nI_clamp, vp_nI, nI_lt0, nI_ge0, nI_eq0, nI_gt0, nI_le0, nI_neg1, neg1_nI, Nat.not_le, Nat.not_lt, if_true, if_false, true_and, and_true, true_implies, false_implies, implies_true, not_true_eq_false, not_false_eq_true, reduceIte, false_or, or_false, false_and, and_false, true_or, or_true, hr, (hR i (by omega)).1]
      refine ⟨by omega, by omega, ih (i + 1) _ (by omega) (fun j hj => ?_) (fun j => by rw [rd_wr, if_neg (by omega)]; exact hr j) (hs.wr _ (by omega))⟩
      simp only [rd_wr, true_and]
      split
      · next e => rw [e]
      · exact ht j (by omega)
  exact run_le (keep 20 0 u (by omega) (fun j hj => by omega) (fun j => rfl) Sm.rf) (by simp [leL])
set_option maxHeartbeats 4000000 in
set_option maxRecDepth 100000 in
theorem c_M_shower {d : Nat} {c last a w : Int32} {A : AS} {u : Mem} {Q : Option MV → Mem → Prop} (h : MIn A u) (hq : ∀ v, MIn A v → KK u v → Q (some (.inr (.inl (opShower A c last a w)))) v) : OKm (d + 6) g_M_shower [.inr (.inr (8, 0)), .inl c, .inl last, .inl a, .inl w] u Q := by
  unfold opShower at hq
  (refine en_M_shower _ (Nat.le_of_ble_eq_true rfl) (rb_M_shower_0 ?_); simp only [bk_M_shower_0, gr_aloadn, gr_invokevirtual, NI_8, ps_0, ps_s, pu_n, pu_s, ct_0, ct_i, ct_l, ct_r, gr_iloadn, gr_i2l, pL_c, oL_c, kL_p, kL_m, gr_lconst, gr_ldc2w, gr_invokestatic, gr_ifCond_eq, gr_iload, gr_goto, gr_bipush, gr_lreturn, gr_nil, pI_c, pR_c, oI_c, oR_c, lg_i, lg_l, lg_r, lg_n, kI_p, kI_m, lk_0, lk_s, ar_n, ar_c, if_true, if_false, List.replicate, Nat.reduceAdd, Nat.reduceSub, Nat.reduceLeDiff, Nat.reduceEqDiff, Nat.reduceLT, reduceIte, true_and, and_true, true_implies, false_implies, implies_true, eq_self, not_true_eq_false, not_false_eq_true, Bool.false_eq_true, reduceCtorEq, forall_const, List.headD_cons, Nat.zero_add, true_or, or_true, ne_eq, false_and, and_false, false_or, or_false, Nat.reduceBEq, Bool.false_and, Bool.and_false, Bool.or_false, Bool.false_or, Bool.and_self, Bool.true_and, Bool.and_true, Bool.or_self, z10, z01, zm0, nz1, nz0, cnt0])
  refine c_M_find h (fun v hm hf hk hkk => ?_)
  have bad : (inB c 17 && inB last 10 && inB a 20 && inB w 2) = false → RunB (d + 6) Y_M_shower 1 [some (.inr (.inr (8, 0))), some (.inl c), some (.inl last), some (.inl a), some (.inl w)] [] v Q := by
    intro e
    rw [if_neg (by rw [e]; exact Bool.false_ne_true)] at hq
    (refine rb_M_shower_1 ?_; simp only [bk_M_shower_1, gr_aloadn, gr_invokevirtual, NI_8, ps_0, ps_s, pu_n, pu_s, ct_0, ct_i, ct_l, ct_r, gr_iloadn, gr_i2l, pL_c, oL_c, kL_p, kL_m, gr_lconst, gr_ldc2w, gr_invokestatic, gr_ifCond_eq, gr_iload, gr_goto, gr_bipush, gr_lreturn, gr_nil, pI_c, pR_c, oI_c, oR_c, lg_i, lg_l, lg_r, lg_n, kI_p, kI_m, lk_0, lk_s, ar_n, ar_c, if_true, if_false, List.replicate, Nat.reduceAdd, Nat.reduceSub, Nat.reduceLeDiff, Nat.reduceEqDiff, Nat.reduceLT, reduceIte, true_and, and_true, true_implies, false_implies, implies_true, eq_self, not_true_eq_false, not_false_eq_true, Bool.false_eq_true, reduceCtorEq, forall_const, List.headD_cons, Nat.zero_add, true_or, or_true, ne_eq, false_and, and_false, false_or, or_false, Nat.reduceBEq, Bool.false_and, Bool.and_false, Bool.or_false, Bool.false_or, Bool.and_self, Bool.true_and, Bool.and_true, Bool.or_self, z10, z01, zm0, nz1, nz0, cnt0])
    (refine en_M_no _ (Nat.le_of_ble_eq_true rfl) (rb_M_no_0 ?_); simp only [bk_M_no_0, gr_ldc2w, pL_c, oL_c, kL_p, kL_m, gr_iloadn, gr_i2l, gr_lsub, gr_lreturn, gr_nil, pI_c, pR_c, oI_c, oR_c, lg_i, lg_l, lg_r, lg_n, kI_p, kI_m, lk_0, lk_s, ar_n, ar_c, if_true, if_false, List.replicate, Nat.reduceAdd, Nat.reduceSub, Nat.reduceLeDiff, Nat.reduceEqDiff, Nat.reduceLT, reduceIte, true_and, and_true, true_implies, false_implies, implies_true, eq_self, not_true_eq_false, not_false_eq_true, Bool.false_eq_true, reduceCtorEq, forall_const, List.headD_cons, Nat.zero_add, true_or, or_true, ne_eq, false_and, and_false, false_or, or_false, Nat.reduceBEq, Bool.false_and, Bool.and_false, Bool.or_false, Bool.false_or, Bool.and_self, Bool.true_and, Bool.and_true, Bool.or_self, z10, z01, zm0, nz1, nz0, cnt0])
    rw [show -lN 9223372036854775808 - (-nI 2).toInt64 = -lN 9223372036854775806 by decide]
    (refine rb_M_shower_2 ?_; simp only [bk_M_shower_2, gr_aloadn, gr_invokevirtual, NI_8, ps_0, ps_s, pu_n, pu_s, ct_0, ct_i, ct_l, ct_r, gr_iloadn, gr_i2l, pL_c, oL_c, kL_p, kL_m, gr_lconst, gr_ldc2w, gr_invokestatic, gr_ifCond_eq, gr_iload, gr_goto, gr_bipush, gr_lreturn, gr_nil, pI_c, pR_c, oI_c, oR_c, lg_i, lg_l, lg_r, lg_n, kI_p, kI_m, lk_0, lk_s, ar_n, ar_c, if_true, if_false, List.replicate, Nat.reduceAdd, Nat.reduceSub, Nat.reduceLeDiff, Nat.reduceEqDiff, Nat.reduceLT, reduceIte, true_and, and_true, true_implies, false_implies, implies_true, eq_self, not_true_eq_false, not_false_eq_true, Bool.false_eq_true, reduceCtorEq, forall_const, List.headD_cons, Nat.zero_add, true_or, or_true, ne_eq, false_and, and_false, false_or, or_false, Nat.reduceBEq, Bool.false_and, Bool.and_false, Bool.or_false, Bool.false_or, Bool.and_self, Bool.true_and, Bool.and_true, Bool.or_self, z10, z01, zm0, nz1, nz0, cnt0])
    exact hq v hm hkk
  simp only [gr_aloadn, gr_invokevirtual, NI_8, ps_0, ps_s, pu_n, pu_s, ct_0, ct_i, ct_l, ct_r, gr_iloadn, gr_i2l, pL_c, oL_c, kL_p, kL_m, gr_lconst, gr_ldc2w, gr_invokestatic, gr_ifCond_eq, gr_iload, gr_goto, gr_bipush, gr_lreturn, gr_nil, pI_c, pR_c, oI_c, oR_c, lg_i, lg_l, lg_r, lg_n, kI_p, kI_m, lk_0, lk_s, ar_n, ar_c, if_true, if_false, List.replicate, Nat.reduceAdd, Nat.reduceSub, Nat.reduceLeDiff, Nat.reduceEqDiff, Nat.reduceLT, reduceIte, true_and, and_true, true_implies, false_implies, implies_true, eq_self, not_true_eq_false, not_false_eq_true, Bool.false_eq_true, reduceCtorEq, forall_const, List.headD_cons, Nat.zero_add, true_or, or_true, ne_eq, false_and, and_false, false_or, or_false, Nat.reduceBEq, Bool.false_and, Bool.and_false, Bool.or_false, Bool.false_or, Bool.and_self, Bool.true_and, Bool.and_true, Bool.or_self, z10, z01, zm0, nz1, nz0, cnt0]
  refine c_M_in0 (by omega) (fun g1 => ?_) (fun g => ?_)
  · simp only [gr_aloadn, gr_invokevirtual, NI_8, ps_0, ps_s, pu_n, pu_s, ct_0, ct_i, ct_l, ct_r, gr_iloadn, gr_i2l, pL_c, oL_c, kL_p, kL_m, gr_lconst, gr_ldc2w, gr_invokestatic, gr_ifCond_eq, gr_iload, gr_goto, gr_bipush, gr_lreturn, gr_nil, pI_c, pR_c, oI_c, oR_c, lg_i, lg_l, lg_r, lg_n, kI_p, kI_m, lk_0, lk_s, ar_n, ar_c, if_true, if_false, List.replicate, Nat.reduceAdd, Nat.reduceSub, Nat.reduceLeDiff, Nat.reduceEqDiff, Nat.reduceLT, reduceIte, true_and, and_true, true_implies, false_implies, implies_true, eq_self, not_true_eq_false, not_false_eq_true, Bool.false_eq_true, reduceCtorEq, forall_const, List.headD_cons, Nat.zero_add, true_or, or_true, ne_eq, false_and, and_false, false_or, or_false, Nat.reduceBEq, Bool.false_and, Bool.and_false, Bool.or_false, Bool.false_or, Bool.and_self, Bool.true_and, Bool.and_true, Bool.or_self, z10, z01, zm0, nz1, nz0, cnt0]
    refine c_M_in0 (by omega) (fun g2 => ?_) (fun g => ?_)
    · simp only [gr_aloadn, gr_invokevirtual, NI_8, ps_0, ps_s, pu_n, pu_s, ct_0, ct_i, ct_l, ct_r, gr_iloadn, gr_i2l, pL_c, oL_c, kL_p, kL_m, gr_lconst, gr_ldc2w, gr_invokestatic, gr_ifCond_eq, gr_iload, gr_goto, gr_bipush, gr_lreturn, gr_nil, pI_c, pR_c, oI_c, oR_c, lg_i, lg_l, lg_r, lg_n, kI_p, kI_m, lk_0, lk_s, ar_n, ar_c, if_true, if_false, List.replicate, Nat.reduceAdd, Nat.reduceSub, Nat.reduceLeDiff, Nat.reduceEqDiff, Nat.reduceLT, reduceIte, true_and, and_true, true_implies, false_implies, implies_true, eq_self, not_true_eq_false, not_false_eq_true, Bool.false_eq_true, reduceCtorEq, forall_const, List.headD_cons, Nat.zero_add, true_or, or_true, ne_eq, false_and, and_false, false_or, or_false, Nat.reduceBEq, Bool.false_and, Bool.and_false, Bool.or_false, Bool.false_or, Bool.and_self, Bool.true_and, Bool.and_true, Bool.or_self, z10, z01, zm0, nz1, nz0, cnt0]
      refine c_M_isDay (fun g3 => ?_) (fun g => ?_)
      · simp only [gr_aloadn, gr_invokevirtual, NI_8, ps_0, ps_s, pu_n, pu_s, ct_0, ct_i, ct_l, ct_r, gr_iloadn, gr_i2l, pL_c, oL_c, kL_p, kL_m, gr_lconst, gr_ldc2w, gr_invokestatic, gr_ifCond_eq, gr_iload, gr_goto, gr_bipush, gr_lreturn, gr_nil, pI_c, pR_c, oI_c, oR_c, lg_i, lg_l, lg_r, lg_n, kI_p, kI_m, lk_0, lk_s, ar_n, ar_c, if_true, if_false, List.replicate, Nat.reduceAdd, Nat.reduceSub, Nat.reduceLeDiff, Nat.reduceEqDiff, Nat.reduceLT, reduceIte, true_and, and_true, true_implies, false_implies, implies_true, eq_self, not_true_eq_false, not_false_eq_true, Bool.false_eq_true, reduceCtorEq, forall_const, List.headD_cons, Nat.zero_add, true_or, or_true, ne_eq, false_and, and_false, false_or, or_false, Nat.reduceBEq, Bool.false_and, Bool.and_false, Bool.or_false, Bool.false_or, Bool.and_self, Bool.true_and, Bool.and_true, Bool.or_self, z10, z01, zm0, nz1, nz0, cnt0]
        refine c_M_isTwo (fun g4 => ?_) (fun g => ?_)
        · simp only [gr_aloadn, gr_invokevirtual, NI_8, ps_0, ps_s, pu_n, pu_s, ct_0, ct_i, ct_l, ct_r, gr_iloadn, gr_i2l, pL_c, oL_c, kL_p, kL_m, gr_lconst, gr_ldc2w, gr_invokestatic, gr_ifCond_eq, gr_iload, gr_goto, gr_bipush, gr_lreturn, gr_nil, pI_c, pR_c, oI_c, oR_c, lg_i, lg_l, lg_r, lg_n, kI_p, kI_m, lk_0, lk_s, ar_n, ar_c, if_true, if_false, List.replicate, Nat.reduceAdd, Nat.reduceSub, Nat.reduceLeDiff, Nat.reduceEqDiff, Nat.reduceLT, reduceIte, true_and, and_true, true_implies, false_implies, implies_true, eq_self, not_true_eq_false, not_false_eq_true, Bool.false_eq_true, reduceCtorEq, forall_const, List.headD_cons, Nat.zero_add, true_or, or_true, ne_eq, false_and, and_false, false_or, or_false, Nat.reduceBEq, Bool.false_and, Bool.and_false, Bool.or_false, Bool.false_or, Bool.and_self, Bool.true_and, Bool.and_true, Bool.or_self, z10, z01, zm0, nz1, nz0, cnt0]
          obtain ⟨c, hc, rfl⟩ := inB_ex (by omega) g1
          obtain ⟨last, hl, rfl⟩ := inB_ex (by omega) g2
          obtain ⟨a, ha, rfl⟩ := inB_ex (by omega) g3
          obtain ⟨w, hw, rfl⟩ := inB_ex (by omega) g4
          rw [if_pos (by rw [g1, g2, g3, g4]; rfl), ix_n (by omega), ix_n (by omega), ix_n (by omega), ix_n (by omega)] at hq
          refine c_M_showerOf (by omega) (by omega) ha hw ⟨hm, hf⟩ (fun v1 hv1 hm1 => ?_)
          simp only [gr_aloadn, gr_invokevirtual, NI_8, ps_0, ps_s, pu_n, pu_s, ct_0, ct_i, ct_l, ct_r, gr_iloadn, gr_i2l, pL_c, oL_c, kL_p, kL_m, gr_lconst, gr_ldc2w, gr_invokestatic, gr_ifCond_eq, gr_iload, gr_goto, gr_bipush, gr_lreturn, gr_nil, pI_c, pR_c, oI_c, oR_c, lg_i, lg_l, lg_r, lg_n, kI_p, kI_m, lk_0, lk_s, ar_n, ar_c, if_true, if_false, List.replicate, Nat.reduceAdd, Nat.reduceSub, Nat.reduceLeDiff, Nat.reduceEqDiff, Nat.reduceLT, reduceIte, true_and, and_true, true_implies, false_implies, implies_true, eq_self, not_true_eq_false, not_false_eq_true, Bool.false_eq_true, reduceCtorEq, forall_const, List.headD_cons, Nat.zero_add, true_or, or_true, ne_eq, false_and, and_false, false_or, or_false, Nat.reduceBEq, Bool.false_and, Bool.and_false, Bool.or_false, Bool.false_or, Bool.and_self, Bool.true_and, Bool.and_true, Bool.or_self, z10, z01, zm0, nz1, nz0, cnt0]
          (refine rb_M_shower_2 ?_; simp only [bk_M_shower_2, gr_aloadn, gr_invokevirtual, NI_8, ps_0, ps_s, pu_n, pu_s, ct_0, ct_i, ct_l, ct_r, gr_iloadn, gr_i2l, pL_c, oL_c, kL_p, kL_m, gr_lconst, gr_ldc2w, gr_invokestatic, gr_ifCond_eq, gr_iload, gr_goto, gr_bipush, gr_lreturn, gr_nil, pI_c, pR_c, oI_c, oR_c, lg_i, lg_l, lg_r, lg_n, kI_p, kI_m, lk_0, lk_s, ar_n, ar_c, if_true, if_false, List.replicate, Nat.reduceAdd, Nat.reduceSub, Nat.reduceLeDiff, Nat.reduceEqDiff, Nat.reduceLT, reduceIte, true_and, and_true, true_implies, false_implies, implies_true, eq_self, not_true_eq_false, not_false_eq_true, Bool.false_eq_true, reduceCtorEq, forall_const, List.headD_cons, Nat.zero_add, true_or, or_true, ne_eq, false_and, and_false, false_or, or_false, Nat.reduceBEq, Bool.false_and, Bool.and_false, Bool.or_false, Bool.false_or, Bool.and_self, Bool.true_and, Bool.and_true, Bool.or_self, z10, z01, zm0, nz1, nz0, cnt0])
          exact hq v1 hv1.1 (hkk.tr hm1)
        · simp only [gr_aloadn, gr_invokevirtual, NI_8, ps_0, ps_s, pu_n, pu_s, ct_0, ct_i, ct_l, ct_r, gr_iloadn, gr_i2l, pL_c, oL_c, kL_p, kL_m, gr_lconst, gr_ldc2w, gr_invokestatic, gr_ifCond_eq, gr_iload, gr_goto, gr_bipush, gr_lreturn, gr_nil, pI_c, pR_c, oI_c, oR_c, lg_i, lg_l, lg_r, lg_n, kI_p, kI_m, lk_0, lk_s, ar_n, ar_c, if_true, if_false, List.replicate, Nat.reduceAdd, Nat.reduceSub, Nat.reduceLeDiff, Nat.reduceEqDiff, Nat.reduceLT, reduceIte, true_and, and_true, true_implies, false_implies, implies_true, eq_self, not_true_eq_false, not_false_eq_true, Bool.false_eq_true, reduceCtorEq, forall_const, List.headD_cons, Nat.zero_add, true_or, or_true, ne_eq, false_and, and_false, false_or, or_false, Nat.reduceBEq, Bool.false_and, Bool.and_false, Bool.or_false, Bool.false_or, Bool.and_self, Bool.true_and, Bool.and_true, Bool.or_self, z10, z01, zm0, nz1, nz0, cnt0]
          exact bad (by rw [g]; simp)
      · simp only [gr_aloadn, gr_invokevirtual, NI_8, ps_0, ps_s, pu_n, pu_s, ct_0, ct_i, ct_l, ct_r, gr_iloadn, gr_i2l, pL_c, oL_c, kL_p, kL_m, gr_lconst, gr_ldc2w, gr_invokestatic, gr_ifCond_eq, gr_iload, gr_goto, gr_bipush, gr_lreturn, gr_nil, pI_c, pR_c, oI_c, oR_c, lg_i, lg_l, lg_r, lg_n, kI_p, kI_m, lk_0, lk_s, ar_n, ar_c, if_true, if_false, List.replicate, Nat.reduceAdd, Nat.reduceSub, Nat.reduceLeDiff, Nat.reduceEqDiff, Nat.reduceLT, reduceIte, true_and, and_true, true_implies, false_implies, implies_true, eq_self, not_true_eq_false, not_false_eq_true, Bool.false_eq_true, reduceCtorEq, forall_const, List.headD_cons, Nat.zero_add, true_or, or_true, ne_eq, false_and, and_false, false_or, or_false, Nat.reduceBEq, Bool.false_and, Bool.and_false, Bool.or_false, Bool.false_or, Bool.and_self, Bool.true_and, Bool.and_true, Bool.or_self, z10, z01, zm0, nz1, nz0, cnt0]
        exact bad (by rw [g]; simp)
    · simp only [gr_aloadn, gr_invokevirtual, NI_8, ps_0, ps_s, pu_n, pu_s, ct_0, ct_i, ct_l, ct_r, gr_iloadn, gr_i2l, pL_c, oL_c, kL_p, kL_m, gr_lconst, gr_ldc2w, gr_invokestatic, gr_ifCond_eq, gr_iload, gr_goto, gr_bipush, gr_lreturn, gr_nil, pI_c, pR_c, oI_c, oR_c, lg_i, lg_l, lg_r, lg_n, kI_p, kI_m, lk_0, lk_s, ar_n, ar_c, if_true, if_false, List.replicate, Nat.reduceAdd, Nat.reduceSub, Nat.reduceLeDiff, Nat.reduceEqDiff, Nat.reduceLT, reduceIte, true_and, and_true, true_implies, false_implies, implies_true, eq_self, not_true_eq_false, not_false_eq_true, Bool.false_eq_true, reduceCtorEq, forall_const, List.headD_cons, Nat.zero_add, true_or, or_true, ne_eq, false_and, and_false, false_or, or_false, Nat.reduceBEq, Bool.false_and, Bool.and_false, Bool.or_false, Bool.false_or, Bool.and_self, Bool.true_and, Bool.and_true, Bool.or_self, z10, z01, zm0, nz1, nz0, cnt0]
      exact bad (by rw [g]; simp)
  · simp only [gr_aloadn, gr_invokevirtual, NI_8, ps_0, ps_s, pu_n, pu_s, ct_0, ct_i, ct_l, ct_r, gr_iloadn, gr_i2l, pL_c, oL_c, kL_p, kL_m, gr_lconst, gr_ldc2w, gr_invokestatic, gr_ifCond_eq, gr_iload, gr_goto, gr_bipush, gr_lreturn, gr_nil, pI_c, pR_c, oI_c, oR_c, lg_i, lg_l, lg_r, lg_n, kI_p, kI_m, lk_0, lk_s, ar_n, ar_c, if_true, if_false, List.replicate, Nat.reduceAdd, Nat.reduceSub, Nat.reduceLeDiff, Nat.reduceEqDiff, Nat.reduceLT, reduceIte, true_and, and_true, true_implies, false_implies, implies_true, eq_self, not_true_eq_false, not_false_eq_true, Bool.false_eq_true, reduceCtorEq, forall_const, List.headD_cons, Nat.zero_add, true_or, or_true, ne_eq, false_and, and_false, false_or, or_false, Nat.reduceBEq, Bool.false_and, Bool.and_false, Bool.or_false, Bool.false_or, Bool.and_self, Bool.true_and, Bool.and_true, Bool.or_self, z10, z01, zm0, nz1, nz0, cnt0]
    exact bad (by rw [g]; simp)
