section LW3
variable {p : Program} {l : Launch} {e : Env} {s : State} {m : MethodId} {below : List Frame} {meth : Method} {c : Code}
variable {D : va_G} {cy : Nat → ClassId} {B : Nat} {sa sv : Nat → Nat} {bs L : Nat} {xs : Nat → Int32}
theorem z_lawret (C : zC p l s m #[Value.ref bs] meth c D cy B kd0 166 sa sv RL cL_law 8) (hr : meth.sig.returnType = ret) (hB : s.heap.size = B) {cu : Nat} (hcu : cu ≤ 600000) {b0 : Mem} (M : Mem) (ls : List (Nat × Value)) : Z p l e room_1 s m #[Value.ref bs] below meth c (lw_Z below #[Value.ref bs] s) D cy B kd0 166 8 b0 cu 2514 ls [] M (some M) := by
  refine z_iconst (v := 1) C dL_law_2514 rfl ?_
  intro hx H locs lsA cells slots hc hs hH hS hl
  refine W.widen (k := 601024) (n := 7293034) (by omega) (by omega) ?_
  refine va_forget (fun q hq => by rw [hB]; exact (hS.2.2 q hq).1) ?_
  exact lw_ret C.1 C.2.1 hr C.2.2.2.2.2.2.2.2 dL_law_2515
theorem z_lawloop (C : zC p l s m #[Value.ref bs] meth c D cy B kd0 166 sa sv RL cL_law 8) (X : va_X bs L xs s s.heap ∧ bs < s.heap.size ∧ s.heap.size = B ∧ L ≤ 3072) (hr : meth.sig.returnType = ret) (N : Nat) {b0 : Mem} : ∀ (r i cu : Nat) (M : Mem), i + 6 * r ≤ L → L < i + 6 * r + 6 → cu + 80 * r ≤ 590000 →
    Z p l e room_1 s m #[Value.ref bs] below meth c (lw_Z below #[Value.ref bs] s) D cy B kd0 166 8 b0 cu 23 (lwl B bs i) [] M (fLaw N xs r i M) := by
  intro r
  induction r with
  | zero =>
    intro i cu M h1 h2 h3
    have hlt : nI L - 6 < nI i := by
      by_cases h6 : 6 ≤ L
      · rw [lim_eq h6]
        exact nI_lt (by omega) (by omega)
      · exact lim_lt L (by omega) i (by omega)
    refine z_iload C 0 dL_law_23 rfl ?_
    refine z_aload_n C 0 4 dL_law_25 rfl rfl ?_
    refine z_slen C X dL_law_26 ?_
    refine z_bipush (v := 6) C dL_law_27 rfl ?_
    refine z_isub C dL_law_29 ?_
    intro hx
    refine z_icmp_gt (b0 := b0) (x1 := some M) (x2 := none) C 2514 dL_law_30 rfl (fun _ => ?_) (fun q => absurd hlt q) (by rw [if_pos hlt]; exact hx)
    exact z_lawret C hr X.2.2.1 (by omega) M _
  | succ r ih =>
    intro i cu M h1 h2 h3
    have hlt : ¬ nI L - 6 < nI i := by
      rw [lim_eq (by omega)]
      exact nI_nlt (by omega) (by omega)
    refine z_iload C 0 dL_law_23 rfl ?_
    refine z_aload_n C 0 4 dL_law_25 rfl rfl ?_
    refine z_slen C X dL_law_26 ?_
    refine z_bipush (v := 6) C dL_law_27 rfl ?_
    refine z_isub C dL_law_29 ?_
    intro hx
    refine z_icmp_gt (b0 := b0) (x1 := none) (x2 := fLaw N xs (r + 1) i M) C 2514 dL_law_30 rfl (fun q => absurd q hlt) (fun _ => ?_) (by rw [if_neg hlt]; exact hx)
    refine z_lstep C X N i cu (by omega) (by omega) M (fun M => fLaw N xs r (i + 6) M) (fun M => ?_)
    refine z_iinc C 4 0 (v := nI i) (v1 := nI (i + 6)) (ls1 := lwl B bs (i + 6)) dL_law_2508 rfl (nI_add i 6) (by decide) rfl ?_
    refine z_goto C 23 dL_law_2511 rfl ?_
    exact ih (i + 6) (cu + 80) M (by omega) (by omega) (by omega)
end LW3
