/-! words: compared by letters, or by a number -/
def wN (f : Nat → Int32) (s : Nat) : Nat → Nat
  | 0 => 0
  | j + 1 => 27 * wN f s j + ((f (s + j)).toNatClampNeg - 96)
def gk (k : Nat) (i : Nat) : Int32 := (zz_byt.getD k []).getD i 0
def wC (k : Nat) : Int64 := lN (wN (gk k) 0 (zz_len.getD k 0))
set_option maxHeartbeats 400000 in
theorem gk_letters : ∀ k, k < 13 → ∀ j, j < zz_len.getD k 0 → bL (gk k j) = true := by decide +kernel
set_option maxHeartbeats 400000 in
theorem gk_apart : ∀ j, j < 13 → ∀ k, k < 13 → zz_len.getD j 0 = zz_len.getD k 0 → (∀ i, i < zz_len.getD j 0 → gk j i = gk k i) → j = k := by decide +kernel
set_option maxHeartbeats 400000 in
theorem wC_neg : ∀ k, k < 13 → ¬ (-1 : Int64) = wC k := by decide +kernel
set_option maxHeartbeats 400000 in
theorem wC_vals : wC 0 = 68944599 ∧ wC 1 = 117713956 ∧ wC 2 = 3957544 ∧ wC 3 = 464061 ∧ wC 4 = 8984627224 ∧ wC 5 = 380873 ∧ wC 6 = 4555648 ∧ wC 7 = 4081298 ∧ wC 8 = 365647 ∧ wC 9 = 94574 ∧ wC 10 = 5878 ∧ wC 11 = 3217420 ∧ wC 12 = 453959 := by decide +kernel
set_option maxHeartbeats 400000 in
theorem bL_nI {b : Int32} (h : bL b = true) : ∃ j, 97 ≤ j ∧ j ≤ 122 ∧ b = nI j := by
  unfold bL at h
  rw [Bool.and_eq_true, decide_eq_true_eq, decide_eq_true_eq] at h
  obtain ⟨j, hj, rfl⟩ := in_of (n := 122) (by decide) ⟨Int32.le_trans (by decide) h.1, h.2⟩
  exact ⟨j, (nI_leI (a := 97) (by decide) (by omega)).mp h.1, hj, rfl⟩
set_option maxHeartbeats 400000 in
theorem wN_lt {f : Nat → Int32} {s : Nat} : ∀ j, (∀ i, i < j → bL (f (s + i)) = true) → wN f s j < 27 ^ j := by
  intro j
  induction j with
  | zero => intro _; exact Nat.one_pos
  | succ j ih =>
    intro h
    have h1 := ih (fun i hi => h i (by omega))
    obtain ⟨b, h2, h3, e⟩ := bL_nI (h j (by omega))
    rw [wN, e, nI_clamp (by omega), Nat.pow_succ]
    omega
set_option maxHeartbeats 400000 in
theorem wN_inj {f g : Nat → Int32} {s t : Nat} : ∀ a b, (∀ i, i < a → bL (f (s + i)) = true) → (∀ i, i < b → bL (g (t + i)) = true) → wN f s a = wN g t b → a = b ∧ ∀ j, j < a → f (s + j) = g (t + j) := by
  intro a
  induction a with
  | zero =>
    intro b hf hg e
    cases b with
    | zero => exact ⟨rfl, fun j hj => absurd hj (Nat.not_lt_zero j)⟩
    | succ b =>
      obtain ⟨d, h2, h3, ed⟩ := bL_nI (hg b (by omega))
      rw [wN, wN, ed, nI_clamp (by omega)] at e
      omega
  | succ a ih =>
    intro b hf hg e
    obtain ⟨d, h2, h3, ed⟩ := bL_nI (hf a (by omega))
    cases b with
    | zero =>
      rw [wN, wN, ed, nI_clamp (by omega)] at e
      omega
    | succ b =>
      obtain ⟨d', h2', h3', ed'⟩ := bL_nI (hg b (by omega))
      rw [wN, wN, ed, ed', nI_clamp (by omega), nI_clamp (by omega)] at e
      obtain ⟨q1, q2⟩ := ih b (fun i hi => hf i (by omega)) (fun i hi => hg i (by omega)) (by omega)
      subst q1
      refine ⟨rfl, fun j hj => ?_⟩
      by_cases z : j = a
      · rw [z, ed, ed']
        exact congrArg nI (by omega)
      · exact q2 j (by omega)
set_option maxHeartbeats 400000 in
theorem lN_addm (a b : Nat) : lN a + lN b = lN (a + b) := (Int64.ofNat_add a b).symm
set_option maxHeartbeats 400000 in
theorem lN_mulm (a b : Nat) : lN a * lN b = lN (a * b) := (Int64.ofNat_mul a b).symm
set_option maxHeartbeats 400000 in
theorem lN_subm {a b : Nat} (h : b ≤ a) : lN a - lN b = lN (a - b) := by
  have e : lN (a - b) + lN b = lN a := by rw [lN_addm]; exact congrArg lN (by omega)
  rw [← e, Int64.add_sub_cancel]
set_option maxHeartbeats 400000 in
theorem hsh_lN {f : Nat → Int32} {s : Nat} : ∀ j, j ≤ 12 → (∀ i, i < j → bL (f (s + i)) = true) → hsh f s j = lN (wN f s j) := by
  intro j
  induction j with
  | zero => intro _ _; rfl
  | succ j ih =>
    intro hj h
    obtain ⟨b, h2, h3, e⟩ := bL_nI (h j (by omega))
    rw [hsh, wN, if_neg (by omega), ih (by omega) (fun i hi => h i (by omega)), e, nI_clamp (by omega), nI_l (by omega)]
    rw [show (27 : Int64) * lN (wN f s j) = lN (27 * wN f s j) from lN_mulm 27 _, lN_addm, show lN (27 * wN f s j + b) - 96 = lN (27 * wN f s j + b - 96) from lN_subm (b := 96) (by omega)]
    exact congrArg lN (by omega)
set_option maxHeartbeats 400000 in
theorem hsh_big {f : Nat → Int32} {s j : Nat} (h : 12 < j) : hsh f s j = -1 := by
  obtain ⟨i, rfl⟩ : ∃ i, j = i + 1 := ⟨j - 1, by omega⟩
  rw [hsh, if_pos (by omega)]
set_option maxHeartbeats 400000 in
theorem p27 : (27 : Nat) ^ 12 < 2 ^ 63 := by decide
set_option maxHeartbeats 400000 in
theorem wd_iff {f : Nat → Int32} {s e k : Nat} (hse : s ≤ e) (hk : k < 13) (hL : ∀ j, s ≤ j → j < e → bL (f j) = true) : hsh f s (e - s) = wC k ↔ mtP f s e k := by
  have hl : zz_len.getD k 0 ≤ 7 := zz_len_lt k (by omega)
  have hf : ∀ i, i < e - s → bL (f (s + i)) = true := fun i hi => hL _ (by omega) (by omega)
  have hg : ∀ i, i < zz_len.getD k 0 → bL (gk k (0 + i)) = true := fun i hi => by rw [Nat.zero_add]; exact gk_letters k hk i hi
  have bnd : ∀ (g : Nat → Int32) (t j : Nat), j ≤ 12 → (∀ i, i < j → bL (g (t + i)) = true) → wN g t j < 2 ^ 63 := fun g t j hj hh => Nat.lt_trans (Nat.lt_of_lt_of_le (wN_lt j hh) (Nat.pow_le_pow_right (by decide) hj)) p27
  constructor
  · intro h
    by_cases c : e - s ≤ 12
    · rw [hsh_lN _ c hf] at h
      have h2 := (pk_lEQ (bnd f s _ c hf) (bnd (gk k) 0 _ (by omega) hg)).mp h
      obtain ⟨q1, q2⟩ := wN_inj _ _ hf hg h2
      refine ⟨by omega, fun j hj => ?_⟩
      have := q2 j (by omega)
      rw [Nat.zero_add] at this
      exact this
    · rw [hsh_big (by omega)] at h
      exact absurd h (wC_neg k hk)
  · rintro ⟨q1, q2⟩
    have e1 : e - s = zz_len.getD k 0 := by omega
    rw [hsh_lN _ (by omega) hf, e1]
    have cg : ∀ j, j ≤ zz_len.getD k 0 → wN f s j = wN (gk k) 0 j := by
      intro j
      induction j with
      | zero => intro _; rfl
      | succ j ih =>
        intro hj
        rw [wN, wN, ih (by omega), q2 j (by omega), Nat.zero_add]
        rfl
    rw [cg _ (Nat.le_refl _)]
    rfl
set_option maxHeartbeats 400000 in
theorem wIx_hit {f : Nat → Int32} {s e : Nat} : ∀ (c k : Nat), wIx f s e c k < k + c → mtP f s e (wIx f s e c k) := by
  intro c
  induction c with
  | zero => intro k h; exact absurd h (by rw [wIx]; omega)
  | succ c ih =>
    intro k h
    rw [wIx] at h ⊢
    by_cases q : mtB f s e k = true
    · rw [if_pos q]
      exact mtB_iff.mp q
    · rw [if_neg q] at h ⊢
      exact ih (k + 1) (by omega)
set_option maxHeartbeats 400000 in
theorem wIx_le {f : Nat → Int32} {s e : Nat} : ∀ (c k : Nat), wIx f s e c k ≤ k + c := by
  intro c
  induction c with
  | zero => intro k; rw [wIx]; omega
  | succ c ih =>
    intro k
    rw [wIx]
    have := ih (k + 1)
    split <;> omega
set_option maxHeartbeats 400000 in
theorem wIx_of {f : Nat → Int32} {s e r : Nat} (h : mtP f s e r) (hu : ∀ j, j < 13 → mtP f s e j → j = r) : ∀ (c k : Nat), k ≤ r → r < k + c → k + c ≤ 13 → wIx f s e c k = r := by
  intro c
  induction c with
  | zero => intro k h1 h2 _; omega
  | succ c ih =>
    intro k h1 h2 h3
    rw [wIx]
    by_cases q : mtB f s e k = true
    · rw [if_pos q]
      exact hu k (by omega) (mtB_iff.mp q)
    · rw [if_neg q]
      have : k ≠ r := fun z => q (mtB_iff.mpr (z ▸ h))
      exact ih (k + 1) (by omega) (by omega) (by omega)
set_option maxHeartbeats 400000 in
theorem mt_uniq {f : Nat → Int32} {s e j k : Nat} (hj : j < 13) (hk : k < 13) (h1 : mtP f s e j) (h2 : mtP f s e k) : j = k := by
  have q1 := h1.1
  have q2 := h2.1
  refine gk_apart j hj k hk (by omega) (fun i hi => ?_)
  exact (h1.2 i hi).symm.trans (h2.2 i (by omega))
set_option maxHeartbeats 400000 in
theorem wIx_iff {f : Nat → Int32} {s e k : Nat} (hk : k < 13) : wIx f s e 13 0 = k ↔ mtP f s e k := by
  constructor
  · intro h
    have := wIx_hit (f := f) (s := s) (e := e) 13 0 (by omega)
    rw [h] at this
    exact this
  · intro h
    exact wIx_of h (fun j hj hm => mt_uniq hj hk hm h) 13 0 (by omega) (by omega) (by omega)
section Words
variable {f : Nat → Int32} {n : Nat}
def num (f : Nat → Int32) (n p K : Nat) : Bool := decide (tK f n p = 2) && decide (tV f n p < K)
def wrd (f : Nat → Int32) (n p k : Nat) : Bool := decide (tK f n p = 1) && decide (tV f n p = k)
set_option maxHeartbeats 400000 in
theorem num_iff {p K : Nat} : num f n p K = true ↔ tK f n p = 2 ∧ tV f n p < K := by unfold num; simp
set_option maxHeartbeats 400000 in
theorem wrd_iff {p k : Nat} : wrd f n p k = true ↔ tK f n p = 1 ∧ tV f n p = k := by unfold wrd; simp
set_option maxHeartbeats 400000 in
theorem tV_le {p : Nat} : tV f n p ≤ 1000 := by
  unfold tV
  split
  · have := wIx_le (f := f) (s := tS f n p) (e := tE f n p) 13 0
    omega
  · exact nX_le f _ _
set_option maxHeartbeats 400000 in
theorem tK_le {p : Nat} : tK f n p ≤ 4 := by
  unfold tK
  repeat' split
  all_goals omega
set_option maxHeartbeats 400000 in
theorem s3_isWord {post : Int32 → Prop} {T : TSt} {p k : Nat} (hT : TA f n T p) (hk : k < 13) (h : post (if wrd f n p k then 1 else 0)) : wX3_isWord post T (nI k) := by
  obtain ⟨-, -, -, -, h5, h6⟩ := hT
  have hle := tK_le (f := f) (n := n) (p := p)
  have hv := tV_le (f := f) (n := n) (p := p)
  refine ⟨fun c => ?_, fun c => ⟨fun c2 => ?_, fun c2 => ?_⟩⟩
  · rw [if_neg (fun z => c (by rw [h5, (wrd_iff.mp z).1]; rfl))] at h
    exact h
  · have k1 : tK f n p = 1 := (nI_eq (b := 1) (by omega) (by decide)).mp (h5 ▸ c)
    rw [if_neg (fun z => c2 (by rw [h6 (Or.inl k1), (wrd_iff.mp z).2]))] at h
    exact h
  · have k1 : tK f n p = 1 := (nI_eq (b := 1) (by omega) (by decide)).mp (h5 ▸ c)
    rw [h6 (Or.inl k1)] at c2
    rw [if_pos (wrd_iff.mpr ⟨k1, (nI_eq (by omega) (by omega)).mp c2⟩)] at h
    exact h
set_option maxHeartbeats 400000 in
theorem nle_K {v K : Nat} (hv : v ≤ 1000) (hK : K ≤ 1000) : (¬ nI K - 1 < nI v) ↔ v < K := by
  cases K with
  | zero => exact ⟨fun q => absurd (Int32.lt_of_lt_of_le (show nI 0 - 1 < (0 : Int32) by decide) (nI_pos' (by omega))) q, fun q => absurd q (Nat.not_lt_zero v)⟩
  | succ K =>
    rw [nI_pred]
    constructor
    · intro q
      have := (nI_leI (by omega) (by omega)).mp (Int32.not_lt.mp q)
      omega
    · intro q
      exact nI_nlt (by omega) (by omega)
set_option maxHeartbeats 400000 in
theorem s3_isNum {post : Int32 → Prop} {T : TSt} {p K : Nat} {m : Int32} (hT : TA f n T p) (hK : K ≤ 1000) (em : m = nI K - 1) (h : post (if num f n p K then 1 else 0)) : wX3_isNumberTo post T m := by
  obtain ⟨-, -, -, -, h5, h6⟩ := hT
  have hle := tK_le (f := f) (n := n) (p := p)
  have hv := tV_le (f := f) (n := n) (p := p)
  subst em
  refine ⟨fun c => ?_, fun c => br_c (fun c2 => ?_) (fun c2 => ?_)⟩
  · rw [if_neg (fun z => c (by rw [h5, (num_iff.mp z).1]; rfl))] at h
    exact h
  · have k1 : tK f n p = 2 := (nI_eq (b := 2) (by omega) (by decide)).mp (h5 ▸ c)
    rw [h6 (Or.inr k1)] at c2
    rw [if_neg (fun z => (nle_K hv hK).mpr (num_iff.mp z).2 c2)] at h
    exact h
  · have k1 : tK f n p = 2 := (nI_eq (b := 2) (by omega) (by decide)).mp (h5 ▸ c)
    rw [h6 (Or.inr k1)] at c2
    rw [if_pos (num_iff.mpr ⟨k1, (nle_K hv hK).mp c2⟩)] at h
    exact h
set_option maxHeartbeats 400000 in
theorem srt_eq {k : Nat} (hk : k ≤ 4) : (srt k = 1 ↔ k = 1) ∧ (srt k = 2 ↔ k = 2) ∧ (srt k = 0 ↔ k = 0) ∧ srt k ≤ 3 := by
  unfold srt
  split <;> omega
set_option maxHeartbeats 400000 in
theorem s5_isWord {post : Int32 → Prop} {N M' : MSt} {p k : Nat} {g : Int32} (hp : p ≤ n) (hM : MA f n N M' p g) (hk : k < 13) (h : post (if wrd f n p k then 1 else 0)) {C : Int64} (eC : wC k = C) : wX5_isWord post M' C := by
  subst eC
  obtain ⟨a, b, c, w, v, rfl, e1, e2, e3, e4, -⟩ := hM
  have hle := tK_le (f := f) (n := n) (p := p)
  obtain ⟨s1, s2, s0, s3⟩ := srt_eq hle
  have hE := tE_le (f := f) hp
  have key : tK f n p = 1 → (lg_cmp w (wC k) = 0 ↔ tV f n p = k) := by
    intro k1
    have hS := tS_le (f := f) hp
    have el : tE f n p = run bL f (n - tS f n p) (tS f n p) := by
      have k1' := k1
      unfold tK at k1'
      unfold tE
      by_cases c1 : n ≤ tS f n p
      · rw [if_pos c1] at k1'; omega
      · rw [if_neg c1] at k1' ⊢
        by_cases c2 : bL (f (tS f n p)) = true
        · rw [if_pos c2]
        · rw [if_neg c2] at k1'
          split at k1'
          · omega
          · split at k1' <;> omega
    have hL : ∀ j, tS f n p ≤ j → j < tE f n p → bL (f j) = true := by
      intro j h1 h2
      rw [el] at h2
      exact run_all _ _ j h1 h2
    rw [lg_cmp_eq, e4 k1, wd_iff hE.1 hk hL, ← wIx_iff hk]
    unfold tV
    rw [if_pos k1]
  refine ⟨fun c1 => ?_, fun c1 => ⟨fun c2 => ?_, fun c2 => ?_⟩⟩
  · rw [if_neg (fun z => c1 (show a = 1 from by rw [e3, s1.mpr (wrd_iff.mp z).1]; rfl))] at h
    exact h
  · have k1 : tK f n p = 1 := s1.mp ((nI_eq (b := 1) (by omega) (by decide)).mp (e3 ▸ c1))
    rw [if_neg (fun z => c2 ((key k1).mpr (wrd_iff.mp z).2))] at h
    exact h
  · have k1 : tK f n p = 1 := s1.mp ((nI_eq (b := 1) (by omega) (by decide)).mp (e3 ▸ c1))
    rw [if_pos (wrd_iff.mpr ⟨k1, (key k1).mp c2⟩)] at h
    exact h
set_option maxHeartbeats 400000 in
theorem MA.good {N M' : MSt} {p : Nat} {g g' : Int32} (h : MA f n N M' p g) : MA f n N (m_good_s M' g') p g' := by
  obtain ⟨a, b, c, w, v, rfl, r⟩ := h
  exact ⟨a, b, c, w, v, rfl, r⟩
set_option maxHeartbeats 400000 in
theorem MA.isGood {N M' : MSt} {p : Nat} {g : Int32} (h : MA f n N M' p g) : m_good M' = g := by
  obtain ⟨a, b, c, w, v, rfl, -⟩ := h
  rfl
set_option maxHeartbeats 400000 in
theorem MA.row {N M' : MSt} {p : Nat} {g : Int32} (h : MA f n N M' p g) : m_row M' = m_row N := by
  obtain ⟨a, b, c, w, v, rfl, -⟩ := h
  rfl
set_option maxHeartbeats 400000 in
theorem MA.setRow {N M' : MSt} {p : Nat} {g : Int32} (h : MA f n N M' p g) (q : Nat → Int32) : MA f n (m_row_s N q) (m_row_s M' q) p g := by
  obtain ⟨a, b, c, w, v, rfl, r⟩ := h
  exact ⟨a, b, c, w, v, rfl, r⟩
set_option maxHeartbeats 400000 in
theorem MA.sortIs {N M' : MSt} {p : Nat} {g : Int32} (h : MA f n N M' p g) : m_sort M' = nI (srt (tK f n p)) := by
  obtain ⟨a, b, c, w, v, rfl, -, -, e3, -⟩ := h
  exact e3
set_option maxHeartbeats 400000 in
theorem MA.begins {N M' : MSt} {p : Nat} {g : Int32} (h : MA f n N M' p g) : m_begins M' = nI (tS f n p) := by
  obtain ⟨a, b, c, w, v, rfl, e1, -⟩ := h
  exact e1
/-! what stays while the text is read: the tape -/
def Tp (f : Nat → Int32) (n : Nat) (N : MSt) : Prop := n ≤ 120 ∧ m_tape N = f ∧ m_tapeMany N = nI n ∧ ∀ i, Rg 255 (f i)
set_option maxHeartbeats 400000 in
theorem s5_adv {post : MSt → Prop} {N M' : MSt} {p : Nat} {g : Int32} (hN : Tp f n N) (hp : p ≤ n) (hM : MA f n N M' p g) (h : ∀ M2, MA f n N M2 (tE f n p) g → post M2) : wX5_advance post M' := by
  obtain ⟨a, b, c, w, v, rfl, e1, e2, -⟩ := hM
  subst e2
  exact s5_advance (f := f) (n := n) (N := N) hN.1 hN.2.1 hN.2.2.1 (tE_le hp).2 hN.2.2.2 h
set_option maxHeartbeats 400000 in
theorem s5_wantNumber {post : Int32 → MSt → Prop} {N M' : MSt} {p K : Nat} {m : Int32} (hN : Tp f n N) (hp : p ≤ n) (hM : MA f n N M' p 1) (hK : K ≤ 1000) (em : m = nI K - 1) (ht : num f n p K = true → ∀ M2, MA f n N M2 (tE f n p) 1 → post (nI (tV f n p)) M2) (hf : num f n p K = false → ∀ y M2, MA f n N M2 p 0 → post y M2) : wX5_wantNumber post M' 0 m := by
  subst em
  have hle := tK_le (f := f) (n := n) (p := p)
  have hv := tV_le (f := f) (n := n) (p := p)
  obtain ⟨s1, s2, s0, s3⟩ := srt_eq hle
  have eg := hM.isGood
  have es := hM.sortIs
  intro y ey
  have no : num f n p K = false → wX5_wantNumber_34 post M' y := by
    intro z S3 e3
    subst e3
    exact br_t rfl (hf z y _ hM.good)
  refine br_f (by rw [eg]; decide) ⟨fun c => no ?_, fun c => ?_⟩
  · cases z : num f n p K
    · rfl
    · exact absurd (by rw [es, s2.mpr (num_iff.mp z).1]; rfl) c
  · have k2 : tK f n p = 2 := s2.mp ((nI_eq (b := 2) (by omega) (by decide)).mp (es ▸ c))
    obtain ⟨hv1, hv2⟩ : (tV f n p ≤ 999 → y = nI (tV f n p)) ∧ (999 < tV f n p → nI 1000 ≤ y) := by
      obtain ⟨a, b, c, w, v, rfl, -, -, -, -, e5, -⟩ := id hM
      rw [ey]
      exact e5 k2
    by_cases q : tV f n p < K
    · have zt : num f n p K = true := num_iff.mpr ⟨k2, q⟩
      have e0 := hv1 (by omega)
      rw [e0]
      refine s5_in_t (nI_pos' (by omega)) (Int32.not_lt.mp ((nle_K hv hK).mpr q)) (br_f (by decide) (fun S9 e9 => ?_))
      subst e9
      exact br_f (show ¬ (1 : Int32) = 0 by decide) (s5_adv hN hp hM.good (ht zt))
    · have zf : num f n p K = false := by
        cases z : num f n p K
        · rfl
        · exact absurd (num_iff.mp z).2 q
      refine s5_in_f (fun w => ?_) (br_t rfl (no zf))
      by_cases q2 : tV f n p ≤ 999
      · rw [hv1 q2] at w
        exact q ((nle_K hv hK).mp (Int32.not_lt.mpr w.2))
      · have w1 := Int32.le_trans (hv2 (by omega)) w.2
        cases K with
        | zero => exact absurd w1 (by decide)
        | succ K =>
          rw [nI_pred] at w1
          have := (nI_leI (by omega) (by omega)).mp w1
          omega
end Words
