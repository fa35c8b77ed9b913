/-! SEMANTICS: write, wronged; the looks at trays -/
theorem cut0 (v : Int64) : v.toInt32.toInt8.toInt32.toInt64 = shrJ (shlJ v (nI 56)) (nI 56) := by
  apply bl_ext
  intro i hi
  rw [bl_sshr 56 (by omega) _ hi]
  show (BitVec.signExtend 64 (BitVec.signExtend 32 (BitVec.signExtend 8 (BitVec.signExtend 32 v.toBitVec)))).getLsbD i = _
  by_cases h : 56 + i < 64
  · rw [if_pos h, bl_shl 56 (by omega) v h]
    simp only [BitVec.getLsbD_signExtend, BitVec.msb_eq_getLsbD_last]
    have : i < 8 := by omega
    simp [hi, this, show i < 32 by omega, bl]
  · rw [if_neg h, bl_shl 56 (by omega) v (by omega)]
    simp only [BitVec.getLsbD_signExtend, BitVec.msb_eq_getLsbD_last]
    by_cases h32 : i < 32
    · simp [hi, h32, show ¬ i < 8 by omega, bl]
    · simp [hi, h32, bl]
theorem cut1 (v : Int64) : v.toInt32.toInt16.toInt32.toInt64 = shrJ (shlJ v (nI 48)) (nI 48) := by
  apply bl_ext
  intro i hi
  rw [bl_sshr 48 (by omega) _ hi]
  show (BitVec.signExtend 64 (BitVec.signExtend 32 (BitVec.signExtend 16 (BitVec.signExtend 32 v.toBitVec)))).getLsbD i = _
  by_cases h : 48 + i < 64
  · rw [if_pos h, bl_shl 48 (by omega) v h]
    simp only [BitVec.getLsbD_signExtend, BitVec.msb_eq_getLsbD_last]
    have : i < 16 := by omega
    simp [hi, this, show i < 32 by omega, bl]
  · rw [if_neg h, bl_shl 48 (by omega) v (by omega)]
    simp only [BitVec.getLsbD_signExtend, BitVec.msb_eq_getLsbD_last]
    by_cases h32 : i < 32
    · simp [hi, h32, show ¬ i < 16 by omega, bl]
    · simp [hi, h32, bl]
theorem cut2 (v : Int64) : v.toInt32.toInt64 = shrJ (shlJ v (nI 32)) (nI 32) := by
  apply bl_ext
  intro i hi
  rw [bl_sshr 32 (by omega) _ hi]
  show (BitVec.signExtend 64 (BitVec.signExtend 32 v.toBitVec)).getLsbD i = _
  by_cases h : 32 + i < 64
  · rw [if_pos h, bl_shl 32 (by omega) v h]
    simp only [BitVec.getLsbD_signExtend, BitVec.msb_eq_getLsbD_last]
    simp [hi, show i < 32 by omega, bl]
  · rw [if_neg h, bl_shl 32 (by omega) v (by omega)]
    simp only [BitVec.getLsbD_signExtend, BitVec.msb_eq_getLsbD_last]
    simp [hi, show ¬ i < 32 by omega, bl]
theorem cut3 (v : Int64) : v = shrJ (shlJ v (nI 0)) (nI 0) := by
  apply bl_ext
  intro i hi
  rw [bl_sshr 0 (by omega) _ hi, if_pos (by omega), bl_shl 0 (by omega) v (by omega)]
  simp
def cutT (so : Nat) (v : Int64) : Int64 := shrJ (shlJ v ((64 : Int32) - (shlI (8 : Int32) (nI so)))) ((64 : Int32) - (shlI (8 : Int32) (nI so)))
theorem cut_ok {b so : Nat} {M : Mem} (h : rI M b 2 = nI so) (hs : so ≤ 3) (v : Int64) : fX9_cut b v M = some (cutT so v) := by
  unfold fX9_cut cutT
  rw [h]
  have : so = 0 ∨ so = 1 ∨ so = 2 ∨ so = 3 := by omega
  rcases this with q | q | q | q <;> subst q
  · rw [if_pos (show nI 0 = (0 : Int32) from rfl), cut0, show (64 : Int32) - shlI 8 (nI 0) = nI 56 by decide]
  · rw [if_neg (show ¬ nI 1 = (0 : Int32) by decide), if_pos (show nI 1 = (1 : Int32) from rfl), cut1, show (64 : Int32) - shlI 8 (nI 1) = nI 48 by decide]
  · rw [if_neg (show ¬ nI 2 = (0 : Int32) by decide), if_neg (show ¬ nI 2 = (1 : Int32) by decide), if_pos (show nI 2 = (2 : Int32) from rfl), cut2, show (64 : Int32) - shlI 8 (nI 2) = nI 32 by decide]
  · rw [if_neg (show ¬ nI 3 = (0 : Int32) by decide), if_neg (show ¬ nI 3 = (1 : Int32) by decide), if_neg (show ¬ nI 3 = (2 : Int32) by decide), show (64 : Int32) - shlI 8 (nI 3) = nI 0 by decide, ← cut3]
theorem filled_ok {M : Mem} {t : Nat} (h : trS M t) : (fX10_needFilled (103 + 2 * t) M = some (.inl 2, M) ∧ rI M 162 t = -1) ∨ (∃ so ma, trX M t so ma ∧ fX10_needFilled (103 + 2 * t) M = some (.inr (), M) ∧ rI M 162 t ≠ -1) := by
  unfold fX10_needFilled
  rcases h with ⟨q1, q2⟩ | ⟨so, ma, q⟩
  · exact Or.inl ⟨by rw [if_pos q1], q2⟩
  · refine Or.inr ⟨so, ma, q, by rw [q.1, if_neg (by decide)], ?_⟩
    rw [q.2.2.2.1]
    intro z
    have t1 := nI_toInt (n := so) (by have := q.2.1; omega)
    rw [z, show (-1 : Int32).toInt = -1 from by decide] at t1
    omega
theorem w5_162 (M : Mem) (c : Int32) (k : Nat) : rI (wI M 140 5 c) (140 + 22) k = rI M 162 k := by rw [rI_wI, if_neg (by omega)]
theorem w5_163 (M : Mem) (c : Int32) (k : Nat) : rI (wI M 140 5 c) (140 + 23) k = rI M 163 k := by rw [rI_wI, if_neg (by omega)]
theorem w5_164 (M : Mem) (c : Int32) (k : Nat) : rJ (wI M 140 5 c) (140 + 24) k = rJ M 164 k := by rw [rJ_wI]
theorem ag_write (a1 a2 : Int32) (v : Int64) (M : Mem) (hR : Rel M) : agJ (fX10_write 0 a1 a2 v M) (fX11_write 140 a1 a2 v) (fun k Mj1 => if k = 1 then some ((1 : Int32), Mj1) else if k = 2 then some ((2 : Int32), Mj1) else if k = 4 then some ((3 : Int32), Mj1) else none) M := by
  rcases trayAt_ok a1 M with ⟨c1, c2⟩ | ⟨t, ht, rfl, c1, c2⟩
  · refine refJ hR (e := 1) 1 ?_ rfl (by decide) ?_
    · unfold fX10_write; rw [c1, xb_l]
    · unfold fX11_write
      rw [c2, Option.bind_some, if_neg (by decide), fails_ok, Option.bind_some, yo_s, wI_wI]
      exact smF.refl
  · rcases filled_ok (relT_iff.mp hR.2.2.1 t ht) with ⟨d1, d2⟩ | ⟨so, ma, tr, d1, d2⟩
    · refine refJ hR (e := 2) 2 ?_ rfl (by decide) ?_
      · unfold fX10_write; rw [c1, xb_r, d1, xb_l]
      · unfold fX11_write
        rw [c2, Option.bind_some, if_pos rfl, if_pos (inB_nI ht (by decide)), nI_clamp (by omega), w5_162, d2, if_pos rfl, fails_ok, Option.bind_some, yo_s, wI_wI]
        exact smF.refl
    · obtain ⟨t1, t2, t3, t4, t5, t6, t7, t8⟩ := tr
      rcases below a2 ma (by omega) with ⟨_, b1, b2⟩ | ⟨j, hj, rfl, b1, b2, _, b3⟩
      · refine refJ hR (e := 4) 3 ?_ rfl (by decide) ?_
        · unfold fX10_write fX10_write_b25
          rw [c1, xb_r, d1, xb_r]
          rcases b1 with q | ⟨q1, q2, _⟩
          · rw [if_pos q]
          · rw [if_neg q1, t7, if_neg q2]
        · unfold fX11_write
          rw [c2, Option.bind_some, if_pos rfl, if_pos (inB_nI ht (by decide)), nI_clamp (by omega), w5_162, if_neg d2, if_pos (inB_nI ht (by decide)), w5_163, t6, b2, Option.bind_some, if_neg (by decide), fails_ok, Option.bind_some, yo_s, wI_wI]
          exact smF.refl
      · refine Or.inr ⟨cutT so v, wJ M (104 + 2 * t) j (cutT so v), ?_, ?_⟩
        · unfold fX10_write fX9_keep fX9_keep_b24
          rw [c1, xb_r, d1, xb_r, if_neg b1, t7, if_pos b2, if_neg b1, if_neg (show ¬ (40 : Int32) ≤ nI j from nI_ge (b := 40) (by omega) (by decide)), cut_ok t5 t2, Option.bind_some, if_pos (inB_nI (by omega) (by decide)), nI_clamp (by omega), num_ok (by omega), Option.bind_some, show 103 + 2 * t + 1 = 104 + 2 * t by omega, rJ_wJ, if_pos ⟨rfl, rfl⟩]
          rfl
        · generalize hM1 : wJ (wJ M (104 + 2 * t) j (cutT so v)) 165 0 (cutT so v) = M1
          have F1 : smF [104 + 2 * t, 165] M M1 := by
            rw [← hM1]
            exact ((smF.refl).pJ_ (by simp) _ _).pJ_ (by simp) _ _
          have r162 : ∀ u, rI M1 162 u = rI M 162 u := fun u => F1.I_ (by simp; omega) u
          have r163 : ∀ u, rI M1 163 u = rI M 163 u := fun u => F1.I_ (by simp; omega) u
          unfold fX11_write
          rw [c2, Option.bind_some, if_pos rfl, if_pos (inB_nI ht (by decide)), nI_clamp (by omega), w5_162, r162, if_neg d2, if_pos (inB_nI ht (by decide)), w5_163, r163, t6, b3, Option.bind_some, if_pos rfl, if_pos (inB_nI ht (by decide)), ix40, if_pos (inB_nI (by omega) (by decide)), if_pos (inB_nI (by omega) (by decide)), nI_clamp (by omega), t4, yo_s]
          show rJ (wJ (wI M1 140 5 0) 164 (40 * t + j) (cutT so v)) 164 (40 * t + j) = cutT so v ∧ _
          have F2 : smF [140, 164] M1 (wJ (wI M1 140 5 0) 164 (40 * t + j) (cutT so v)) := ((smF.refl).pI_ (by simp) _ _).pJ_ (by simp) _ _
          refine ⟨by rw [rJ_wJ, if_pos ⟨rfl, rfl⟩], ?_, ?_, ?_⟩
          · show rI (wJ (wI M1 140 5 0) 164 (40 * t + j) (cutT so v)) 140 5 = 0
            rw [rI_wJ, w5_5]
          · show rJ (wJ (wI M1 140 5 0) 164 (40 * t + j) (cutT so v)) 165 0 = _
            rw [rJ_wJ, if_neg (by omega), rJ_wI, ← hM1, rJ_wJ, if_pos ⟨rfl, rfl⟩]
          · show Rel (wJ (wI M1 140 5 0) 164 (40 * t + j) (cutT so v))
            refine rel_tr hR ht (fun a h1 h2 h3 h4 h5 h6 h7 => ?_) (fun k hk => ?_) (fun u hu => ?_) (fun u hu => ?_) (fun u hu i hi => ?_) (Or.inr ⟨so, ma, ?_, t2, t3, ?_, ?_, ?_, ?_, fun i hi => ?_⟩)
            · have h165 : a ≠ 165 := fun z => h1 (by rw [z]; decide)
              rw [F2 a (by simp; omega), F1 a (by simp; omega)]
            · rw [rI_wJ, rI_wI, if_neg (by omega), F1.I_ (by simp; omega)]
            · rw [F2.I_ (by simp), r162]
            · rw [F2.I_ (by simp), r163]
            · rw [rJ_wJ, if_neg (by omega), rJ_wI, F1.J_ (by simp; omega)]
            · rw [F2.I_ (by simp; omega), F1.I_ (by simp; omega), t1]
            · rw [F2.I_ (by simp), r162, t4]
            · rw [F2.I_ (by simp; omega), F1.I_ (by simp; omega), t5]
            · rw [F2.I_ (by simp), r163, t6]
            · rw [F2.I_ (by simp; omega), F1.I_ (by simp; omega), t7]
            · have e1 : rJ M1 (104 + 2 * t) i = if 104 + 2 * t = 104 + 2 * t ∧ i = j then cutT so v else rJ M (104 + 2 * t) i := by
                rw [← hM1, rJ_wJ, if_neg (by omega), rJ_wJ]
              have e2 : rJ M1 164 (40 * t + i) = rJ M 164 (40 * t + i) := F1.J_ (by simp; omega) _
              rw [F2.J_ (by simp; omega), e1, rJ_wJ, rJ_wI, e2, t8 i hi]
              by_cases q : i = j
              · rw [if_pos ⟨rfl, q⟩, if_pos ⟨rfl, by omega⟩]
              · rw [if_neg (fun z => q z.2), if_neg (fun z => q (by have := z.2; omega))]
/-- a row and a tray: both find the same at fault, or both are there -/
theorem rowTray_ok {M : Mem} {W g m : Nat} (h : cSh M 1 (M 141).1 W g m) (a1 a2 : Int32) :
    ((fX10_rowAt 0 a1 M = some (.inl 1, M) ∨ ∃ r, fX10_rowAt 0 a1 M = some (.inr r, M) ∧ fX10_trayAt 0 a2 M = some (.inl 1, M)) ∧ ∀ M' : Mem, M' 141 = M 141 → fX11_rowTrayFault 140 a1 a2 M' = some 1) ∨
    (∃ r t, r < 4 ∧ t < 4 ∧ a1 = nI r ∧ a2 = nI t ∧ here M (10 + 4 * r) (M 141).1 r W m ∧ fX10_rowAt 0 a1 M = some (.inr (10 + 4 * r), M) ∧ fX10_trayAt 0 a2 M = some (.inr (103 + 2 * t), M) ∧ ∀ M' : Mem, M' 141 = M 141 → fX11_rowTrayFault 140 a1 a2 M' = some 0) := by
  unfold fX11_rowTrayFault fX11_rowTrayFault_b15
  rcases rowAt_ok h a1 with ⟨c1, c2⟩ | ⟨r, hr, rfl, hh, c1, c2⟩
  · exact Or.inl ⟨Or.inl c1, fun M' e => by rw [c2 M' (by rw [e]), Option.bind_some, if_neg (by decide)]⟩
  · rcases trayAt_ok a2 M with ⟨d1, d2⟩ | ⟨t, ht, rfl, d1, d2⟩
    · exact Or.inl ⟨Or.inr ⟨_, c1, d1⟩, fun M' e => by rw [c2 M' (by rw [e]), Option.bind_some, if_pos rfl, d2, Option.bind_some, if_neg (by decide)]⟩
    · exact Or.inr ⟨r, t, hr, ht, rfl, rfl, hh, c1, d1, fun M' e => by rw [c2 M' (by rw [e]), Option.bind_some, if_pos rfl, d2, Option.bind_some, if_pos rfl]⟩
def isNm (W : Nat) (x : Int64) : Prop := 0 ≤ x.toInt ∧ x.toInt < W
theorem rnum_ok {t j : Nat} (ht : t < 4) (hj : j < 40) (M : Mem) : inB ((40 : Int32) * nI t + nI j) 160 = true ∧ rJ M (140 + 24) ((40 : Int32) * nI t + nI j).toNatClampNeg = rJ M 164 (40 * t + j) := by
  rw [ix40, nI_clamp (by omega)]
  exact ⟨inB_nI (by omega) (by decide), rfl⟩
/-- all numbers are names -/
def nmsP (M : Mem) (t ma W : Nat) : Prop := ∀ j, j < ma → isNm W (rJ M 164 (40 * t + j))
theorem c_names {N : Nat} {M : Mem} {T : Nat → Int32} {W g m t so ma : Nat} (h : cSh M 1 T W g m) (tr : trX M t so ma) : (nmsP M t ma W ∧ fX10_needNames N 0 (103 + 2 * t) M = some (.inr (), M)) ∨ (¬ nmsP M t ma W ∧ fX10_needNames N 0 (103 + 2 * t) M = some (.inl 3, M)) := by
  obtain ⟨t1, t2, t3, t4, t5, t6, t7, t8⟩ := tr
  have main : Yo (fX10_needNames N 0 (103 + 2 * t) M) (fun x => x.2 = M ∧ ((x.1 = .inr () ∧ nmsP M t ma W) ∨ (x.1 = .inl 3 ∧ ¬ nmsP M t ma W))) := by
    unfold fX10_needNames
    refine yo_f2 (F := fX10_needNames_l2 N 0 (103 + 2 * t)) ma (fun k v M' => v = nI k ∧ M' = M ∧ ∀ j, j < k → isNm W (rJ M 164 (40 * t + j))) ?_ 64 0 _ _ (by omega) (by omega) ⟨rfl, rfl, fun j hj => absurd hj (Nat.not_lt_zero j)⟩
    intro f k v M' hk ⟨hv, hM, hI⟩ ih
    subst hv hM
    show Yo (fX10_needNames_l2_s N 0 (103 + 2 * t) (fX10_needNames_l2 N 0 (103 + 2 * t) f) (nI k) M') _
    unfold fX10_needNames_l2_s
    rw [t7]
    rcases Nat.lt_or_ge k ma with hlt | hge
    · rw [if_neg (nI_ge hlt (by omega)), num_ok (by omega), Option.bind_some, show 103 + 2 * t + 1 = 104 + 2 * t by omega, t8 k (by omega), need_of h]
      by_cases q : 0 ≤ (rJ M' 164 (40 * t + k)).toInt ∧ (rJ M' 164 (40 * t + k)).toInt < W
      · rw [if_pos q, xb_r, nI_1]
        refine ih _ _ hlt ⟨rfl, rfl, fun j hj => ?_⟩
        rcases Nat.lt_or_ge j k with h1 | h1
        · exact hI j h1
        · rw [show j = k by omega]; exact q
      · rw [if_neg q, xb_l, yo_s]
        exact ⟨rfl, Or.inr ⟨rfl, fun z => q (z k hlt)⟩⟩
    · rw [if_pos (nI_le hge (by omega)), yo_s]
      exact ⟨rfl, Or.inl ⟨rfl, fun j hj => hI j (by omega)⟩⟩
  obtain ⟨⟨w, M'⟩, h1, h2, h3⟩ := main
  have h2 : M' = M := h2
  subst h2
  rcases h3 with ⟨q1, q2⟩ | ⟨q1, q2⟩
  · have q1 : w = .inr () := q1
    rw [q1] at h1
    exact Or.inl ⟨q2, h1⟩
  · have q1 : w = .inl 3 := q1
    rw [q1] at h1
    exact Or.inr ⟨q2, h1⟩
def alkP (M : Mem) (t ma : Nat) : Prop := ∃ i j, i < j ∧ j < ma ∧ rJ M 164 (40 * t + i) = rJ M 164 (40 * t + j)
theorem r_names {N : Nat} (hN : 700 ≤ N) {M M' : Mem} {T : Nat → Int32} {W g m t so ma : Nat} (u : Bool) (h : cSh M 1 T W g m) (ht : t < 4) (tr : trX M t so ma) (e1 : (M' 141).1 = T) (e2 : M' 163 = M 163) (e3 : M' 164 = M 164) :
    fX11_areNames N 140 (nI t) u M' = some (bo (nmsP M t ma W ∧ (u = true → ¬ alkP M t ma))) := by
  obtain ⟨t1, t2, t3, t4, t5, t6, t7, t8⟩ := tr
  rw [← yo_eq]
  unfold fX11_areNames
  refine yo_f1 (F := fX11_areNames_l2 N 140 (nI t) u M') ma (fun k v => v = nI k ∧ (∀ j, j < k → isNm W (rJ M 164 (40 * t + j))) ∧ (u = true → ∀ i j, i < j → j < k → rJ M 164 (40 * t + i) ≠ rJ M 164 (40 * t + j))) ?_ N 0 _ (by omega) (by omega) ⟨rfl, fun j hj => absurd hj (Nat.not_lt_zero j), fun _ i j h1 h2 => absurd h2 (Nat.not_lt_zero j)⟩
  intro f k v hk ⟨hv, hI, hJ⟩ ih
  subst hv
  show Yo (fX11_areNames_l2_s N 140 (nI t) u M' (fX11_areNames_l2 N 140 (nI t) u M' f) (nI k)) _
  unfold fX11_areNames_l2_s
  rw [if_pos (inB_nI ht (by decide)), nI_clamp (by omega), show rI M' (140 + 23) t = nI ma from by rw [← t6]; exact eqs_rI e2 _]
  rcases Nat.lt_or_ge k ma with hlt | hge
  · obtain ⟨n1, n2⟩ := rnum_ok ht (show k < 40 by omega) M'
    rw [if_neg (nI_ge hlt (by omega)), if_pos n1, n2, eqs_rJ e3, (isName_ok h _).2 M' e1, Option.bind_some]
    by_cases q : 0 ≤ (rJ M 164 (40 * t + k)).toInt ∧ (rJ M 164 (40 * t + k)).toInt < W
    · rw [decide_eq_true q, if_pos rfl]
      have hI' : ∀ j, j < k + 1 → isNm W (rJ M 164 (40 * t + j)) := fun j hj => by
        rcases Nat.lt_or_ge j k with h1 | h1
        · exact hI j h1
        · rw [show j = k by omega]; exact q
      cases u with
      | false =>
        obtain ⟨N', rfl⟩ : ∃ N', N = N' + 1 := ⟨N - 1, by omega⟩
        show Yo (fX11_areNames_l35_s (N' + 1) _ 140 (nI t) false (nI k) M' _ 0) _
        unfold fX11_areNames_l35_s fX11_areNames_b80
        rw [if_neg (by decide : ¬ (false = true)), nI_1]
        refine yo_i (fun _ => ?_) (fun _ => ?_)
        · exact ih _ hlt ⟨rfl, hI', fun z => by cases z⟩
        · exact ih _ hlt ⟨rfl, hI', fun z => by cases z⟩
      | true =>
        refine yo_f1 (F := fX11_areNames_l35 N (fX11_areNames_l2 N 140 (nI t) true M' f) 140 (nI t) true (nI k) M') k (fun p w => w = nI p ∧ ∀ i, i < p → rJ M 164 (40 * t + i) ≠ rJ M 164 (40 * t + k)) ?_ N 0 _ (by omega) (by omega) ⟨rfl, fun j hj => absurd hj (Nat.not_lt_zero j)⟩
        intro f2 p w hp ⟨hw, hK⟩ ih2
        subst hw
        show Yo (fX11_areNames_l35_s N (fX11_areNames_l2 N 140 (nI t) true M' f) 140 (nI t) true (nI k) M' (fX11_areNames_l35 N (fX11_areNames_l2 N 140 (nI t) true M' f) 140 (nI t) true (nI k) M' f2) (nI p)) _
        unfold fX11_areNames_l35_s fX11_areNames_b80
        rcases Nat.lt_or_ge p k with hpl | hpg
        · obtain ⟨m1, m2⟩ := rnum_ok ht (show p < 40 by omega) M'
          rw [if_neg (nI_ge hpl (by omega)), if_pos rfl, if_pos m1, if_pos n1, m2, n2, eqs_rJ e3, eqs_rJ e3, nI_1]
          refine yo_i (fun z => ?_) (fun z => ?_)
          · rw [yo_s, bo_f]
            exact fun y => y.2 rfl ⟨p, k, hpl, hlt, z⟩
          · refine ih2 _ hpl ⟨rfl, fun i hi => ?_⟩
            rcases Nat.lt_or_ge i p with h1 | h1
            · exact hK i h1
            · rw [show i = p by omega]; exact z
        · rw [if_pos (nI_le hpg (by omega)), nI_1]
          refine ih _ hlt ⟨rfl, hI', fun _ i j h1 h2 => ?_⟩
          rcases Nat.lt_or_ge j k with h3 | h3
          · exact hJ rfl i j h1 h3
          · rw [show j = k by omega]; exact hK i (by omega)
    · rw [decide_eq_false q, if_neg (by decide), yo_s, bo_f]
      exact fun y => q (y.1 k hlt)
  · rw [if_pos (nI_le hge (by omega)), yo_s, bo_t]
    exact ⟨fun j hj => hI j (by omega), fun z ⟨i, j, h1, h2, h3⟩ => hJ z i j h1 (by omega) h3⟩
theorem c_alike {N : Nat} (hN : 700 ≤ N) {M : Mem} {t so ma : Nat} (tr : trX M t so ma) : fX9_hasTwoAlike N (103 + 2 * t) M = some (bo (alkP M t ma)) := by
  obtain ⟨t1, t2, t3, t4, t5, t6, t7, t8⟩ := tr
  rw [← yo_eq]
  unfold fX9_hasTwoAlike
  refine yo_f1 (F := fX9_hasTwoAlike_l2 N (103 + 2 * t) M) ma (fun k v => v = nI k ∧ (∀ i j, i < j → j < k → rJ M 164 (40 * t + i) ≠ rJ M 164 (40 * t + j))) ?_ N 0 _ (by omega) (by omega) ⟨rfl, fun i j h1 h2 => absurd h2 (Nat.not_lt_zero j)⟩
  intro f k v hk ⟨hv, hJ⟩ ih
  subst hv
  show Yo (fX9_hasTwoAlike_l2_s N (103 + 2 * t) M (fX9_hasTwoAlike_l2 N (103 + 2 * t) M f) (nI k)) _
  unfold fX9_hasTwoAlike_l2_s
  rw [t7]
  rcases Nat.lt_or_ge k ma with hlt | hge
  · rw [if_neg (nI_ge hlt (by omega))]
    refine yo_f1 (F := fX9_hasTwoAlike_l12 N (fX9_hasTwoAlike_l2 N (103 + 2 * t) M f) (103 + 2 * t) (nI k) M) k (fun p w => w = nI p ∧ ∀ i, i < p → rJ M 164 (40 * t + i) ≠ rJ M 164 (40 * t + k)) ?_ N 0 _ (by omega) (by omega) ⟨rfl, fun j hj => absurd hj (Nat.not_lt_zero j)⟩
    intro f2 p w hp ⟨hw, hK⟩ ih2
    subst hw
    show Yo (fX9_hasTwoAlike_l12_s N (fX9_hasTwoAlike_l2 N (103 + 2 * t) M f) (103 + 2 * t) (nI k) M (fX9_hasTwoAlike_l12 N (fX9_hasTwoAlike_l2 N (103 + 2 * t) M f) (103 + 2 * t) (nI k) M f2) (nI p)) _
    unfold fX9_hasTwoAlike_l12_s
    rcases Nat.lt_or_ge p k with hpl | hpg
    · rw [if_neg (nI_ge hpl (by omega)), num_ok (by omega), Option.bind_some, num_ok (by omega), Option.bind_some, show 103 + 2 * t + 1 = 104 + 2 * t by omega, t8 k (by omega), t8 p (by omega), nI_1]
      refine yo_i (fun z => ?_) (fun z => ?_)
      · rw [yo_s, bo_t]
        exact ⟨p, k, hpl, hlt, z.symm⟩
      · refine ih2 _ hpl ⟨rfl, fun i hi => ?_⟩
        rcases Nat.lt_or_ge i p with h1 | h1
        · exact hK i h1
        · rw [show i = p by omega]; exact fun y => z y.symm
    · rw [if_pos (nI_le hpg (by omega)), nI_1]
      refine ih _ hlt ⟨rfl, fun i j h1 h2 => ?_⟩
      rcases Nat.lt_or_ge j k with h3 | h3
      · exact hJ i j h1 h3
      · rw [show j = k by omega]; exact hK i (by omega)
  · rw [if_pos (nI_le hge (by omega)), yo_s, bo_f]
    exact fun ⟨i, j, h1, h2, h3⟩ => hJ i j h1 (by omega) h3
