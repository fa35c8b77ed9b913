/-! SEMANTICS, TOOLS. A function comes to something that is so; loops with a counter; memories alike but for some places; numbers. -/
def Yo {β : Type} (o : Option β) (Q : β → Prop) : Prop := ∃ b, o = some b ∧ Q b
theorem yo_s {β : Type} {b : β} {Q : β → Prop} : Yo (some b) Q ↔ Q b := ⟨fun ⟨_, h1, h2⟩ => by cases h1; exact h2, fun h => ⟨b, rfl, h⟩⟩
theorem yo_b {β γ : Type} {o : Option β} {f : β → Option γ} {Q : γ → Prop} : Yo (o.bind f) Q ↔ Yo o (fun b => Yo (f b) Q) := by
  cases o with
  | none => exact ⟨fun ⟨_, h, _⟩ => (nomatch h), fun ⟨_, h, _⟩ => (nomatch h)⟩
  | some b => exact (yo_s (Q := fun b => Yo (f b) Q)).symm
theorem Yo.to {β : Type} {o : Option β} {P Q : β → Prop} (h : Yo o P) (k : ∀ b, P b → Q b) : Yo o Q := by
  obtain ⟨b, h1, h2⟩ := h
  exact ⟨b, h1, k b h2⟩
theorem Yo.bi {β γ : Type} {o : Option β} {f : β → Option γ} {P : β → Prop} {Q : γ → Prop} (h : Yo o P) (k : ∀ b, P b → Yo (f b) Q) : Yo (o.bind f) Q := yo_b.mpr (h.to k)
theorem yo_i {β : Type} {c : Prop} [Decidable c] {a b : Option β} {Q : β → Prop} (h1 : c → Yo a Q) (h2 : ¬ c → Yo b Q) : Yo (if c then a else b) Q := by
  by_cases h : c
  · rw [if_pos h]; exact h1 h
  · rw [if_neg h]; exact h2 h
theorem yo_if {β : Type} {c : Prop} [Decidable c] {a b : Option β} {Q : β → Prop} : Yo (if c then a else b) Q ↔ (if c then Yo a Q else Yo b Q) := by
  by_cases h : c
  · rw [if_pos h, if_pos h]
  · rw [if_neg h, if_neg h]
theorem yo_eq {β : Type} {o : Option β} {b : β} : Yo o (fun x => x = b) ↔ o = some b := ⟨fun ⟨_, h1, h2⟩ => by rw [h1, h2], fun h => ⟨b, h, rfl⟩⟩
theorem xb_r {α β : Type} {v : α} {M : Mem} {f : α → Mem → Option ((Nat ⊕ β) × Mem)} : xb (some (.inr v, M)) f = f v M := rfl
theorem xb_l {α β : Type} {k : Nat} {M : Mem} {f : α → Mem → Option ((Nat ⊕ β) × Mem)} : xb (some (.inl k, M)) f = some (.inl k, M) := rfl
theorem hb_r {α β : Type} {v : α} {M : Mem} {f : α → Mem → Option β} {g : Nat → Mem → Option β} : hb (some (.inr v, M)) f g = f v M := rfl
theorem hb_l {α β : Type} {k : Nat} {M : Mem} {f : α → Mem → Option β} {g : Nat → Mem → Option β} : hb (some (.inl k, M)) f g = g k M := rfl
/-- a loop: a counter k up to W, at most as many turns as are left -/
theorem yo_f1 {A β : Type} {F : Nat → A → Option β} {Q : β → Prop} (W : Nat) (I : Nat → A → Prop) (st : ∀ (n k : Nat) (a : A), k ≤ W → I k a → (∀ a', k < W → I (k + 1) a' → Yo (F n a') Q) → Yo (F (n + 1) a) Q) :
    ∀ (n k : Nat) (a : A), k ≤ W → W < n + k → I k a → Yo (F n a) Q := by
  intro n
  induction n with
  | zero => intro k a h1 h2 _; omega
  | succ n ih => intro k a h1 h2 h; exact st n k a h1 h (fun a' hk h' => ih (k + 1) a' hk (by omega) h')
theorem yo_f2 {A B β : Type} {F : Nat → A → B → Option β} {Q : β → Prop} (W : Nat) (I : Nat → A → B → Prop) (st : ∀ (n k : Nat) (a : A) (b : B), k ≤ W → I k a b → (∀ a' b', k < W → I (k + 1) a' b' → Yo (F n a' b') Q) → Yo (F (n + 1) a b) Q) :
    ∀ (n k : Nat) (a : A) (b : B), k ≤ W → W < n + k → I k a b → Yo (F n a b) Q := by
  intro n
  induction n with
  | zero => intro k a b h1 h2 _; omega
  | succ n ih => intro k a b h1 h2 h; exact st n k a b h1 h (fun a' b' hk h' => ih (k + 1) a' b' hk (by omega) h')
theorem yo_f3 {A B C β : Type} {F : Nat → A → B → C → Option β} {Q : β → Prop} (W : Nat) (I : Nat → A → B → C → Prop) (st : ∀ (n k : Nat) (a : A) (b : B) (c : C), k ≤ W → I k a b c → (∀ a' b' c', k < W → I (k + 1) a' b' c' → Yo (F n a' b' c') Q) → Yo (F (n + 1) a b c) Q) :
    ∀ (n k : Nat) (a : A) (b : B) (c : C), k ≤ W → W < n + k → I k a b c → Yo (F n a b c) Q := by
  intro n
  induction n with
  | zero => intro k a b c h1 h2 _; omega
  | succ n ih => intro k a b c h1 h2 h; exact st n k a b c h1 h (fun a' b' c' hk h' => ih (k + 1) a' b' c' hk (by omega) h')
theorem yo_f4 {A B C D β : Type} {F : Nat → A → B → C → D → Option β} {Q : β → Prop} (W : Nat) (I : Nat → A → B → C → D → Prop) (st : ∀ (n k : Nat) (a : A) (b : B) (c : C) (d : D), k ≤ W → I k a b c d → (∀ a' b' c' d', k < W → I (k + 1) a' b' c' d' → Yo (F n a' b' c' d') Q) → Yo (F (n + 1) a b c d) Q) :
    ∀ (n k : Nat) (a : A) (b : B) (c : C) (d : D), k ≤ W → W < n + k → I k a b c d → Yo (F n a b c d) Q := by
  intro n
  induction n with
  | zero => intro k a b c d h1 h2 _; omega
  | succ n ih => intro k a b c d h1 h2 h; exact st n k a b c d h1 h (fun a' b' c' d' hk h' => ih (k + 1) a' b' c' d' hk (by omega) h')
theorem yo_f5 {A B C D E β : Type} {F : Nat → A → B → C → D → E → Option β} {Q : β → Prop} (W : Nat) (I : Nat → A → B → C → D → E → Prop) (st : ∀ (n k : Nat) (a : A) (b : B) (c : C) (d : D) (e : E), k ≤ W → I k a b c d e → (∀ a' b' c' d' e', k < W → I (k + 1) a' b' c' d' e' → Yo (F n a' b' c' d' e') Q) → Yo (F (n + 1) a b c d e) Q) :
    ∀ (n k : Nat) (a : A) (b : B) (c : C) (d : D) (e : E), k ≤ W → W < n + k → I k a b c d e → Yo (F n a b c d e) Q := by
  intro n
  induction n with
  | zero => intro k a b c d e h1 h2 _; omega
  | succ n ih => intro k a b c d e h1 h2 h; exact st n k a b c d e h1 h (fun a' b' c' d' e' hk h' => ih (k + 1) a' b' c' d' e' hk (by omega) h')
/-! memories alike but for the places S -/
def smF (S : List Nat) (M M' : Mem) : Prop := ∀ a, a ∉ S → M' a = M a
theorem smF.refl {S : List Nat} {M : Mem} : smF S M M := fun _ _ => rfl
theorem smF.trans {S : List Nat} {M M' M'' : Mem} (h : smF S M M') (h' : smF S M' M'') : smF S M M'' := fun a ha => by rw [h' a ha, h a ha]
theorem smF.mono {S S' : List Nat} {M M' : Mem} (h : smF S M M') (hs : ∀ a, a ∈ S → a ∈ S') : smF S' M M' := fun a ha => h a (fun q => ha (hs a q))
theorem smF.I_ {S : List Nat} {M M' : Mem} (h : smF S M M') {a : Nat} (ha : a ∉ S) (k : Nat) : rI M' a k = rI M a k := by unfold rI; rw [h a ha]
theorem smF.J_ {S : List Nat} {M M' : Mem} (h : smF S M M') {a : Nat} (ha : a ∉ S) (k : Nat) : rJ M' a k = rJ M a k := by unfold rJ; rw [h a ha]
theorem smF.pIs_ {S : List Nat} {M M' : Mem} (h : smF S M M') {a : Nat} (ha : a ∈ S) (f : Nat → Int32) : smF S M (wIs M' a f) := fun b hb => by
  have hne : b ≠ a := fun q => hb (q ▸ ha)
  unfold wIs
  rw [va_up_ne _ _ hne]
  exact h b hb
theorem smF.pJs_ {S : List Nat} {M M' : Mem} (h : smF S M M') {a : Nat} (ha : a ∈ S) (f : Nat → Int64) : smF S M (wJs M' a f) := fun b hb => by
  have hne : b ≠ a := fun q => hb (q ▸ ha)
  unfold wJs
  rw [va_up_ne _ _ hne]
  exact h b hb
theorem smF.pI_ {S : List Nat} {M M' : Mem} (h : smF S M M') {a : Nat} (ha : a ∈ S) (k : Nat) (v : Int32) : smF S M (wI M' a k v) := h.pIs_ ha _
theorem smF.pJ_ {S : List Nat} {M M' : Mem} (h : smF S M M') {a : Nat} (ha : a ∈ S) (k : Nat) (v : Int64) : smF S M (wJ M' a k v) := h.pJs_ ha _
theorem rI_wI (M : Mem) (a i b k : Nat) (v : Int32) : rI (wI M a i v) b k = if b = a ∧ k = i then v else rI M b k := by
  unfold rI wI wIs
  by_cases h : b = a
  · subst h
    rw [va_up_self]
    by_cases hk : k = i
    · subst hk; simp [upd]
    · simp [upd, hk]
  · rw [va_up_ne _ _ h, if_neg (fun q => h q.1)]
theorem rI_wJ (M : Mem) (a i b k : Nat) (v : Int64) : rI (wJ M a i v) b k = rI M b k := by
  unfold rI wJ wJs
  by_cases h : b = a
  · subst h
    rw [va_up_self]
  · rw [va_up_ne _ _ h]
theorem rJ_wJ (M : Mem) (a i b k : Nat) (v : Int64) : rJ (wJ M a i v) b k = if b = a ∧ k = i then v else rJ M b k := by
  unfold rJ wJ wJs
  by_cases h : b = a
  · subst h
    rw [va_up_self]
    by_cases hk : k = i
    · subst hk; simp [vp_updL]
    · simp [vp_updL, hk]
  · rw [va_up_ne _ _ h, if_neg (fun q => h q.1)]
theorem rJ_wI (M : Mem) (a i b k : Nat) (v : Int32) : rJ (wI M a i v) b k = rJ M b k := by
  unfold rJ wI wIs
  by_cases h : b = a
  · subst h
    rw [va_up_self]
  · rw [va_up_ne _ _ h]
theorem rI_fillI (M : Mem) (a ln b k : Nat) (v : Int32) : rI (fillI M a ln v) b k = if b = a ∧ k < ln then v else rI M b k := by
  unfold rI fillI wIs
  by_cases h : b = a
  · subst h
    rw [va_up_self]
    by_cases hk : k < ln
    · simp [hk]
    · simp [hk]
  · rw [va_up_ne _ _ h, if_neg (fun q => h q.1)]
theorem rJ_fillJ (M : Mem) (a ln b k : Nat) (v : Int64) : rJ (fillJ M a ln v) b k = if b = a ∧ k < ln then v else rJ M b k := by
  unfold rJ fillJ wJs
  by_cases h : b = a
  · subst h
    rw [va_up_self]
    by_cases hk : k < ln
    · simp [hk]
    · simp [hk]
  · rw [va_up_ne _ _ h, if_neg (fun q => h q.1)]
theorem rI_fillJ (M : Mem) (a ln b k : Nat) (v : Int64) : rI (fillJ M a ln v) b k = rI M b k := by
  unfold rI fillJ wJs
  by_cases h : b = a
  · subst h
    rw [va_up_self]
  · rw [va_up_ne _ _ h]
theorem rJ_fillI (M : Mem) (a ln b k : Nat) (v : Int32) : rJ (fillI M a ln v) b k = rJ M b k := by
  unfold rJ fillI wIs
  by_cases h : b = a
  · subst h
    rw [va_up_self]
  · rw [va_up_ne _ _ h]
theorem rI_cpI (M : Mem) (a b ln c k : Nat) : rI (cpI M a b ln) c k = if c = b ∧ k < ln then rI M a k else rI M c k := by
  unfold rI cpI wIs va_cpy
  by_cases h : c = b
  · subst h
    rw [va_up_self]
    by_cases hk : k < ln
    · simp [hk]
    · simp [hk]
  · rw [va_up_ne _ _ h, if_neg (fun q => h q.1)]
theorem rJ_cpI (M : Mem) (a b ln c k : Nat) : rJ (cpI M a b ln) c k = rJ M c k := by
  unfold rJ cpI wIs
  by_cases h : c = b
  · subst h
    rw [va_up_self]
  · rw [va_up_ne _ _ h]
theorem rJ_cpJ (M : Mem) (a b ln c k : Nat) : rJ (cpJ M a b ln) c k = if c = b ∧ k < ln then rJ M a k else rJ M c k := by
  unfold rJ cpJ wJs va_cpy
  by_cases h : c = b
  · subst h
    rw [va_up_self]
    by_cases hk : k < ln
    · simp [hk]
    · simp [hk]
  · rw [va_up_ne _ _ h, if_neg (fun q => h q.1)]
theorem rI_cpJ (M : Mem) (a b ln c k : Nat) : rI (cpJ M a b ln) c k = rI M c k := by
  unfold rI cpJ wJs
  by_cases h : c = b
  · subst h
    rw [va_up_self]
  · rw [va_up_ne _ _ h]
/-! numbers: literals as nI, comparisons by naturals -/
theorem li_0 : (0 : Int32) = nI 0 := rfl
theorem li_1 : (1 : Int32) = nI 1 := rfl
theorem li_2 : (2 : Int32) = nI 2 := rfl
theorem li_3 : (3 : Int32) = nI 3 := rfl
theorem li_4 : (4 : Int32) = nI 4 := rfl
theorem li_5 : (5 : Int32) = nI 5 := rfl
theorem li_6 : (6 : Int32) = nI 6 := rfl
theorem li_7 : (7 : Int32) = nI 7 := rfl
theorem li_8 : (8 : Int32) = nI 8 := rfl
theorem li_9 : (9 : Int32) = nI 9 := rfl
theorem li_10 : (10 : Int32) = nI 10 := rfl
theorem li_12 : (12 : Int32) = nI 12 := rfl
theorem li_15 : (15 : Int32) = nI 15 := rfl
theorem li_16 : (16 : Int32) = nI 16 := rfl
theorem li_17 : (17 : Int32) = nI 17 := rfl
theorem li_18 : (18 : Int32) = nI 18 := rfl
theorem li_20 : (20 : Int32) = nI 20 := rfl
theorem li_24 : (24 : Int32) = nI 24 := rfl
theorem li_32 : (32 : Int32) = nI 32 := rfl
theorem li_37 : (37 : Int32) = nI 37 := rfl
theorem li_38 : (38 : Int32) = nI 38 := rfl
theorem li_39 : (39 : Int32) = nI 39 := rfl
theorem li_40 : (40 : Int32) = nI 40 := rfl
theorem li_41 : (41 : Int32) = nI 41 := rfl
theorem li_42 : (42 : Int32) = nI 42 := rfl
theorem li_43 : (43 : Int32) = nI 43 := rfl
theorem li_44 : (44 : Int32) = nI 44 := rfl
theorem li_45 : (45 : Int32) = nI 45 := rfl
theorem li_46 : (46 : Int32) = nI 46 := rfl
theorem li_47 : (47 : Int32) = nI 47 := rfl
theorem li_48 : (48 : Int32) = nI 48 := rfl
theorem li_57 : (57 : Int32) = nI 57 := rfl
theorem li_59 : (59 : Int32) = nI 59 := rfl
theorem li_63 : (63 : Int32) = nI 63 := rfl
theorem li_64 : (64 : Int32) = nI 64 := rfl
theorem li_97 : (97 : Int32) = nI 97 := rfl
theorem li_122 : (122 : Int32) = nI 122 := rfl
theorem li_127 : (127 : Int32) = nI 127 := rfl
theorem li_128 : (128 : Int32) = nI 128 := rfl
theorem li_240 : (240 : Int32) = nI 240 := rfl
theorem li_250 : (250 : Int32) = nI 250 := rfl
theorem li_255 : (255 : Int32) = nI 255 := rfl
theorem li_256 : (256 : Int32) = nI 256 := rfl
theorem li_512 : (512 : Int32) = nI 512 := rfl
theorem li_600 : (600 : Int32) = nI 600 := rfl
theorem li_999 : (999 : Int32) = nI 999 := rfl
theorem li_1000 : (1000 : Int32) = nI 1000 := rfl
theorem li_1220 : (1220 : Int32) = nI 1220 := rfl
theorem li_3268 : (3268 : Int32) = nI 3268 := rfl
theorem li_9804 : (9804 : Int32) = nI 9804 := rfl
theorem li_1000000 : (1000000 : Int32) = nI 1000000 := rfl
theorem li_1536 : (1536 : Int32) = nI 1536 := rfl
theorem li_160 : (160 : Int32) = nI 160 := rfl
theorem inB_lt {i ln : Nat} (h : i < 2 ^ 31) : (inB (nI i) ln = true) ↔ i < ln := by
  unfold inB
  simp only [Bool.and_eq_true, Bool.not_eq_true', decide_eq_false_iff_not, decide_eq_true_eq, nI_clamp h]
  exact ⟨fun q => q.2, fun q => ⟨nI_pos h, q⟩⟩
theorem inB_int (v : Int32) (ln : Nat) : (inB v ln = true) ↔ 0 ≤ v.toInt ∧ v.toInt < ln := by
  unfold inB
  simp only [Bool.and_eq_true, Bool.not_eq_true', decide_eq_false_iff_not, decide_eq_true_eq]
  rw [Int32.lt_iff_toInt_lt, Int32.toInt_zero]
  have : v.toNatClampNeg = v.toInt.toNat := rfl
  omega
theorem nI_n0 {a : Nat} (h : a < 2 ^ 31) : ¬ nI a < nI 0 := nI_pos h
theorem ng_toInt {b : Nat} (hb : b < 2 ^ 31) : (-nI b).toInt = -(b : Int) := by
  rw [Int32.toInt_neg, nI_toInt hb]
  exact Int.bmod_eq_of_le (by omega) (by omega)
theorem ng_lt {a b : Nat} (ha : a < 2 ^ 31) (hb : b < 2 ^ 31) : nI a < -nI b ↔ False := by
  refine iff_of_false ?_ id
  rw [Int32.lt_iff_toInt_lt, nI_toInt ha, ng_toInt hb]
  omega
theorem nI_ng {a b : Nat} (ha : a < 2 ^ 31) (hb : b < 2 ^ 31) (h : 0 < b) : nI a = -nI b ↔ False := by
  refine iff_of_false (fun q => ?_) id
  have h1 := nI_toInt ha
  rw [q, ng_toInt hb] at h1
  omega
theorem ng_nI {a b : Nat} (ha : a < 2 ^ 31) (hb : b < 2 ^ 31) (h : 0 < b) : -nI b = nI a ↔ False := by
  rw [eq_comm]
  exact nI_ng ha hb h
theorem int_cases (v : Int32) : (v.toInt < 0 ∧ v < 0) ∨ ∃ k : Nat, k < 2 ^ 31 ∧ v = nI k := by
  by_cases h : v < 0
  · exact Or.inl ⟨by rw [Int32.lt_iff_toInt_lt, Int32.toInt_zero] at h; exact h, h⟩
  · exact Or.inr (nI_of h)
/-- how many of the first n are so -/
def cnt (p : Nat → Bool) : Nat → Nat
  | 0 => 0
  | n + 1 => cnt p n + if p n = true then 1 else 0
theorem cnt_le (p : Nat → Bool) : ∀ n, cnt p n ≤ n
  | 0 => Nat.le_refl 0
  | n + 1 => by
    have h := cnt_le p n
    unfold cnt
    split <;> omega
theorem cnt_cong {p q : Nat → Bool} : ∀ {n : Nat}, (∀ k, k < n → p k = q k) → cnt p n = cnt q n
  | 0, _ => rfl
  | n + 1, h => by
    unfold cnt
    rw [cnt_cong (fun k hk => h k (by omega)), h n (by omega)]
