/-! SEMANTICS: choose -/
def Qf (m mo b k : Nat) : Prop := (∃ i, i < 8 ∧ b = 8 * (i + 1)) ∧ 1 ≤ k ∧ k ≤ m ∧ b + 4 * k ≤ mo
theorem lt_nI {a c : Nat} (ha : a < 2 ^ 31) (hc : c < 2 ^ 31) : nI a < nI c ↔ a < c := by
  rw [Int32.lt_iff_toInt_lt, nI_toInt (by omega), nI_toInt (by omega)]
  omega
def bnd (o : Option (Nat × Nat)) : Prop := ∀ y, o = some y → y.1 ≤ 64 ∧ y.2 ≤ 6
theorem c_chosen {N : Nat} (hN : 700 ≤ N) {M : Mem} {T : Nat → Int32} {r W g m kd sz0 mk0 ex ly mo : Nat} (hc : cX M T r W g m kd sz0 mk0 ex ly) (hmo : mo ≤ 999) :
    Yo (fX0_findChosen N 130 (10 + 4 * r) 2 (nI mo) M) (fun x => smF [8, 130, 133] M x.2 ∧ ∃ o, x.1 = o.isSome ∧ cFd x.2 (chL T r W) o ∧ bst (chL T r W) (Qf m mo) o) := by
  have hr := hc.1
  have hW : W ≤ 256 := hc.W1.2.2
  have hm6 : m ≤ 6 := hc.2.1.1.2.2.2.2.2.2.1
  have hmin : minI (nI W) (256 : Int32) = nI W := by
    unfold minI
    rw [if_neg]
    rw [show (256 : Int32) = nI 256 from rfl, lt_nI (by omega) (by omega)]
    omega
  unfold fX0_findChosen
  rw [show rI M 2 1 = nI W from hc.2.1.2.2.1, hmin]
  refine yo_f2 (F := fX0_findChosen_l23 N 130 (10 + 4 * r) 2 (nI mo)) 8 (fun k v M2 => v = nI (8 * (k + 1)) ∧ smF [8, 130, 133] M M2 ∧ rI M2 130 5 = nI W ∧ ∃ o, cFd M2 (chL T r W) o ∧ bst (chL T r W) (fun b' k' => Qf m mo b' k' ∧ b' < 8 * (k + 1)) o ∧ bnd o) ?_ N 0 _ _ (by omega) (by omega) ⟨rfl, (smF.refl.pI_ (by simp) _ _).pI_ (by simp) _ _, by rw [rI_wI, if_neg (by omega), rI_wI, if_pos ⟨rfl, rfl⟩], none, by show rI _ 130 2 = -1; rw [rI_wI, if_pos ⟨rfl, rfl⟩], fun b' k' ⟨⟨⟨i, hi, hb⟩, _⟩, hlt⟩ => by omega, fun y hy => by cases hy⟩
  intro f k v M2 hk ⟨hv, g1, g2, o, g3, g4, g5⟩ ih
  subst hv
  show Yo (fX0_findChosen_l23_s N 130 (10 + 4 * r) 2 (nI mo) (fX0_findChosen_l23 N 130 (10 + 4 * r) 2 (nI mo) f) (nI (8 * (k + 1))) M2) _
  unfold fX0_findChosen_l23_s
  rw [show (64 : Int32) = nI 64 from rfl]
  rcases Nat.lt_or_ge k 8 with hlt | hge
  · rw [if_neg (fun z => by have := (lt_nI (by omega) (by omega)).mp z; omega), Option.bind_some, show (130 + 3 : Nat) = 133 from rfl]
    have hF1 : smF [133] M2 (fillJ M2 133 256 0) := fun a ha => by
      simp at ha
      unfold fillJ wJs
      exact va_up_ne _ _ ha
    have hcf : cFd (fillJ M2 133 256 0) (chL T r W) o := by
      cases o with
      | none => exact (hF1.I_ (by decide) _).trans g3
      | some x => exact ⟨(hF1.I_ (by decide) _).trans g3.1, (hF1.I_ (by decide) _).trans g3.2.1, (hF1.I_ (by decide) _).trans g3.2.2.1, (hF1.I_ (by decide) _).trans g3.2.2.2⟩
    have hp0 : cPl (fillJ M2 133 256 0) T 0 (8 * (k + 1)) W := ⟨by rw [hF1.I_ (by decide)]; exact g2, fun n hn q => by
      rw [rJ_fillJ, if_pos ⟨rfl, by omega⟩, bl_0]
      exact (bo_f (fun ⟨w, hw, _⟩ => absurd hw (Nat.not_lt_zero w))).symm⟩
    refine yo_f2 (F := fX0_findChosen_l41 N (fX0_findChosen_l23 N 130 (10 + 4 * r) 2 (nI mo) f) 130 (10 + 4 * r) 2 (nI mo) (nI (8 * (k + 1)))) m (fun j v M3 => v = nI (j + 1) ∧ smF [8, 130, 133] M M3 ∧ cPl M3 T j (8 * (k + 1)) W ∧ ∃ o, cFd M3 (chL T r W) o ∧ bst (chL T r W) (fun b' k' => Qf m mo b' k' ∧ (b' < 8 * (k + 1) ∨ (b' = 8 * (k + 1) ∧ k' ≤ j))) o ∧ bnd o) ?_ N 0 _ _ (by omega) (by omega) ⟨rfl, g1.trans (hF1.mono (by decide)), hp0, o, hcf, bst_cong (fun b' k' => ?_) g4, g5⟩
    · intro f2 j v M3 hj ⟨hv, j1, j2, o2, j3, j4, j5⟩ ih2
      subst hv
      show Yo (fX0_findChosen_l41_s N (fX0_findChosen_l23 N 130 (10 + 4 * r) 2 (nI mo) f) 130 (10 + 4 * r) 2 (nI mo) (nI (8 * (k + 1))) (fX0_findChosen_l41 N (fX0_findChosen_l23 N 130 (10 + 4 * r) 2 (nI mo) f) 130 (10 + 4 * r) 2 (nI mo) (nI (8 * (k + 1))) f2) (nI (j + 1)) M3) _
      unfold fX0_findChosen_l41_s fX0_findChosen_b77
      have hc3 : cX M3 T r W g m kd sz0 mk0 ex ly := hc.mv (fun a h1 h2 => j1 a (by simp; omega))
      rw [show rI M3 2 3 = nI m from hc3.2.1.2.2.2.2.1, show (4 : Int32) = nI 4 from rfl, pk_mul, nI_add, show (8 : Int32) = nI 8 from rfl, nI_add, nI_1]
      -- on to the next size
      have out : (m < j + 1 ∨ mo < 8 * (k + 1) + 4 * (j + 1)) → Yo (fX0_findChosen_l23 N 130 (10 + 4 * r) 2 (nI mo) f (nI (8 * (k + 1) + 8)) M3) (fun x => smF [8, 130, 133] M x.2 ∧ ∃ o, x.1 = o.isSome ∧ cFd x.2 (chL T r W) o ∧ bst (chL T r W) (Qf m mo) o) := fun hq => by
        refine ih _ _ hlt ⟨rfl, j1, j2.1, o2, j3, bst_cong (fun b' k' => ?_) j4, j5⟩
        constructor
        · rintro ⟨h1, h2⟩
          exact ⟨h1, by omega⟩
        · rintro ⟨h1, h2⟩
          refine ⟨h1, ?_⟩
          obtain ⟨⟨i, hi, hb⟩, h3, h4, h5⟩ := h1
          omega
      by_cases z1 : m < j + 1
      · rw [if_pos ((lt_nI (by omega) (by omega)).mpr z1)]
        exact out (Or.inl z1)
      · rw [if_neg (fun z => z1 ((lt_nI (by omega) (by omega)).mp z))]
        by_cases z2 : mo < 8 * (k + 1) + 4 * (j + 1)
        · rw [if_pos ((lt_nI (by omega) (by omega)).mpr z2)]
          exact out (Or.inr z2)
        · rw [if_neg (fun z => z2 ((lt_nI (by omega) (by omega)).mp z))]
          refine (c_weigh (k := j) hN hc3 (by omega) (show 1 ≤ 8 * (k + 1) by omega) (by omega) j2 j3 j4 j5).bi (fun x hx => ?_)
          obtain ⟨x1, x2, o3, x3, x4, x5⟩ := hx
          refine ih2 _ _ (by omega) ⟨rfl, j1.trans x1, x2, o3, x3, bst_cong (fun b' k' => ?_) x4, x5⟩
          constructor
          · rintro (⟨h1, h2⟩ | ⟨rfl, rfl⟩)
            · exact ⟨h1, by omega⟩
            · exact ⟨⟨⟨k, hlt, rfl⟩, by omega, by omega, by omega⟩, by omega⟩
          · rintro ⟨h1, h2⟩
            by_cases q : b' = 8 * (k + 1) ∧ k' = j + 1
            · exact Or.inr q
            · exact Or.inl ⟨h1, by omega⟩
    · constructor
      · rintro ⟨h1, h2⟩
        exact ⟨h1, by omega⟩
      · rintro ⟨h1, h2⟩
        exact ⟨h1, by have := h1.2.1; omega⟩
  · rw [if_pos ((lt_nI (by omega) (by omega)).mpr (by omega))]
    have hq : bst (chL T r W) (Qf m mo) o := bst_cong (fun b' k' => ⟨fun h => h.1, fun h => ⟨h, by obtain ⟨⟨i, hi, hb⟩, _⟩ := h; omega⟩⟩) g4
    cases o with
    | none =>
      rw [if_pos (show rI M2 130 2 = -1 from g3), yo_s]
      exact ⟨g1, none, rfl, g3, hq⟩
    | some x =>
      have hx := g5 x rfl
      rw [g3.1, if_neg (show ¬ nI x.1 = (-1 : Int32) from by rw [li_1]; exact fun z => (nI_ng (by omega) (by omega) (by omega)).mp z), yo_s]
      exact ⟨g1, some x, rfl, g3, hq⟩
