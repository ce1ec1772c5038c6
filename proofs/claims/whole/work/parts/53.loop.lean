section LAW3
variable {p : Program} {l : Launch} {e : Env} {s : State} {m : MethodId} {below : List Frame} {meth : Method} {c : Code} {b Ln : Nat} {xs : Nat → Int32} {X : WX} {cells slots : Nat}
theorem law_loop (C : LC p s m meth c b Ln xs X cells slots) : ∀ (f i : Nat) (u : Mem) (H : Heap) (locs : List Loc) (ls : Array Slot), Ln < i + 6 * f → i ≤ 1000 → Inv u → va_P X.D wCl (wsx X u) H → va_S (AX X) s.heap H locs → LL X b i ls → W p l e room_1 s m #[Value.ref b] below meth c H locs cells slots (lw_Z below #[Value.ref b] s) (F0 m 18 ls []) := by
  obtain ⟨⟨hx, hb, hr, hml, hown, hts0, hX, hbl, hlocks, hgv⟩, hL, hK, hI, hNW, hAX, hc1, hc2⟩ := id C
  have hbA : ¬ AX X b := fun z => absurd (hAX b z) (Nat.not_le.mpr hbl)
  intro f
  induction f with
  | zero =>
    intro i u H locs ls hf hi hInv hP hS hl
    refine lv_iload_n hx hb dl_18 rfl (lv_at hl 0 rfl) ?_
    refine lv_aload_n hx hb dl_19 rfl (lv_at hl 1 rfl) ?_
    refine va_slen hx hb hX hbl hbA hS dl_20 ?_
    refine lv_bipush (v := nI 6) hx hb dl_21 (by decide) ?_
    refine lv_isub hx hb dl_23 ?_
    refine lv_icmp_gt (tgt := 1194) hx hb dl_24 (by decide) (fun _ => ?_) (fun z => ?_)
    · refine lv_iconst (v := 1) hx hb dl_1194 (by decide) ?_
      refine va_forget (fun q hq => hAX _ (hS.2.2 q hq)) ?_
      refine W.widen (k := 600000) (n := 7302250) hc1 hc2 ?_
      exact lw_ret hx hb hr hlocks dl_1195
    · exfalso
      refine z (Int32.lt_iff_toInt_lt.mpr ?_)
      rw [show (Int32.ofNat Ln - nI 6).toInt = (Ln : Int) - (6 : Nat) from pk_sub_toInt (by omega) (by omega), nI_toInt (by omega)]
      omega
  | succ f ih =>
    intro i u H locs ls hf hi hInv hP hS hl
    refine lv_iload_n hx hb dl_18 rfl (lv_at hl 0 rfl) ?_
    refine lv_aload_n hx hb dl_19 rfl (lv_at hl 1 rfl) ?_
    refine va_slen hx hb hX hbl hbA hS dl_20 ?_
    refine lv_bipush (v := nI 6) hx hb dl_21 (by decide) ?_
    refine lv_isub hx hb dl_23 ?_
    refine lv_icmp_gt (tgt := 1194) hx hb dl_24 (by decide) (fun _ => ?_) (fun z => ?_)
    · refine lv_iconst (v := 1) hx hb dl_1194 (by decide) ?_
      refine va_forget (fun q hq => hAX _ (hS.2.2 q hq)) ?_
      refine W.widen (k := 600000) (n := 7302250) hc1 hc2 ?_
      exact lw_ret hx hb hr hlocks dl_1195
    · have h6 : i + 6 ≤ Ln := by
        rcases Nat.lt_or_ge Ln (i + 6) with q | q
        · exfalso
          refine z (Int32.lt_iff_toInt_lt.mpr ?_)
          rw [show (Int32.ofNat Ln - nI 6).toInt = (Ln : Int) - (6 : Nat) from pk_sub_toInt (by omega) (by omega), nI_toInt (by omega)]
          omega
        · exact q
      have next : ∀ (u' : Mem) (H' : Heap) (locs' : List Loc), Inv u' → va_P X.D wCl (wsx X u') H' → va_S (AX X) s.heap H' locs' → W p l e room_1 s m #[Value.ref b] below meth c H' locs' cells slots (lw_Z below #[Value.ref b] s) (F0 m 1188 ls []) := by
        intro u' H' locs' hI' hP' hS'
        refine lv_iinc (v := nI (i + 6)) (lv' := [(3, .int (nI (i + 6))), (0, .ref b), (1, .ref (X.ad 7 0)), (2, .ref (X.ad 8 0))]) hx hb dl_1188 hl (k := 0) rfl (by rw [← nI_add]; rfl) (by decide) rfl (fun ls' hl' => ?_)
        refine lv_goto (tgt := 18) hx hb dl_1191 (by decide) ?_
        exact ih (i + 6) u' H' locs' ls' (by omega) (by omega) hI' hP' hS' hl'
      refine lv_aload_n hx hb dl_27 rfl (lv_at hl 1 rfl) ?_
      refine lv_iload_n hx hb dl_28 rfl (lv_at hl 0 rfl) ?_
      refine va_sld hx hb hX hbl hbA hS (vp_in_nI (by omega) (by omega)) dl_29 ?_
      refine lv_bipush (v := nI 63) hx hb dl_30 (by decide) ?_
      refine lv_iand hx hb dl_32 ?_
      obtain ⟨k, hk, ek⟩ := pk_andE (xs (nI i).toNatClampNeg) (m := nI 63) 6 (by decide)
      rw [ek]
      by_cases hk34 : k < 34
      · exact law_disp C hk34 hInv h6 hP hS hl next
      · exact lv_tableOut (tgt := 1188) hx hb dl_33 (Or.inr (by rw [nI_toInt (by omega)]; omega)) (by decide) (next u H locs hInv hP hS)
end LAW3
