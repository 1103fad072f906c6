/-! kinds, bits, least ones -/
theorem Rg_bv {x : Int32} {n : Nat} (h : x.toBitVec.toNat ≤ n) : Rg n x := by
  refine ⟨x.toBitVec.toNat, h, ?_⟩
  apply Int32.toBitVec_inj.mp
  apply BitVec.eq_of_toNat_eq
  rw [show (nI x.toBitVec.toNat).toBitVec.toNat = x.toBitVec.toNat % 2 ^ 32 from rfl]
  exact (Nat.mod_eq_of_lt x.toBitVec.isLt).symm
theorem bv_Rg {x : Int32} {n : Nat} (hn : n < 2 ^ 31) (h : Rg n x) : x.toBitVec.toNat ≤ n := by
  obtain ⟨j, hj, rfl⟩ := h
  rw [pk_tn (by omega)]
  exact hj
theorem Rg_and {x y : Int32} (h : Rg 1023 x) : Rg 1023 (x &&& y) := by
  refine Rg_bv ?_
  have h1 := bv_Rg (by decide) h
  rw [show (x &&& y).toBitVec = x.toBitVec &&& y.toBitVec from rfl, BitVec.toNat_and]
  exact Nat.le_trans Nat.and_le_left h1
theorem Rg_or {x y : Int32} (h : Rg 1023 x) (k : Rg 1023 y) : Rg 1023 (x ||| y) := by
  refine Rg_bv ?_
  have h1 := bv_Rg (by decide) h
  have h2 := bv_Rg (by decide) k
  rw [show (x ||| y).toBitVec = x.toBitVec ||| y.toBitVec from rfl, BitVec.toNat_or]
  have h3 := Nat.or_lt_two_pow (n := 10) (x := x.toBitVec.toNat) (y := y.toBitVec.toNat) (by omega) (by omega)
  omega
def pc1 (x : Int32) : Int32 := (x - (((x.toUInt32 >>> (Int32.toUInt32 1 &&& Int32.toUInt32 31)).toInt32) &&& 1431655765))
def pc2 (x : Int32) : Int32 := ((x &&& 858993459) + (((x.toUInt32 >>> (Int32.toUInt32 2 &&& Int32.toUInt32 31)).toInt32) &&& 858993459))
def pc3 (x : Int32) : Int32 := ((x + ((x.toUInt32 >>> (Int32.toUInt32 4 &&& Int32.toUInt32 31)).toInt32)) &&& 252645135)
def pc4 (x : Int32) : Int32 := (x + ((x.toUInt32 >>> (Int32.toUInt32 8 &&& Int32.toUInt32 31)).toInt32))
def pc5 (x : Int32) : Int32 := (x + ((x.toUInt32 >>> (Int32.toUInt32 16 &&& Int32.toUInt32 31)).toInt32))
/-- how many ones -/
def popc (x : Int32) : Int32 := pc5 (pc4 (pc3 (pc2 (pc1 x)))) &&& 63
theorem s6_bitCount {post : Int32 → Prop} {x : Int32} (h : post (popc x)) : wJ6_bitCount post x := by
  intro y1 e1 y2 e2 y3 e3 y4 e4 y5 e5
  subst e1; subst e2; subst e3; subst e4; subst e5
  exact h
def kern : Nat → Int32 → Int32 → Option Int32
  | 0, _, _ => none
  | f + 1, n, x => if x = 0 then some n else kern f (n + 1) (x &&& (x - 1))
theorem popc_kern : ∀ j, j < 1024 → kern 11 0 (nI j) = some (popc (nI j)) := by decide +kernel
theorem popc_Rg : ∀ j, j < 1024 → (popc (nI j)).toBitVec.toNat ≤ 10 := by decide +kernel
theorem Rg_popc {x : Int32} (h : Rg 1023 x) : Rg 10 (popc x) := by
  obtain ⟨j, hj, rfl⟩ := h
  exact Rg_bv (popc_Rg j (by omega))
theorem s5_bits_l {post : Int32 → Prop} {v : Int32} (h : post v) : ∀ (f : Nat) (n x : Int32), kern f n x = some v → wX5_bits_4 post f n x := by
  intro f
  induction f with
  | zero => intro n x e; cases e
  | succ f ih =>
    intro n x e
    rw [kern] at e
    rw [wX5_bits_4]
    by_cases c : x = 0
    · rw [if_pos c] at e
      cases e
      exact br_t c h
    · rw [if_neg c] at e
      refine br_f c (fun y ey => ?_)
      rw [ey]
      exact ih _ _ e
theorem s5_bits {post : Int32 → Prop} {x : Int32} (hx : Rg 1023 x) (h : post (popc x)) : wX5_bits post x := by
  obtain ⟨j, hj, rfl⟩ := hx
  exact ⟨11, s5_bits_l h 11 0 _ (popc_kern j (by omega))⟩
def clr : Nat → Int32 → Int32
  | 0, s => s
  | n + 1, s => clr n (s &&& (s - 1))
/-- the least ones of a set, n at most -/
def lst (s : Int32) (n : Nat) : Int32 := s &&& (clr n s ^^^ (-1))
theorem clr_0 : ∀ n, clr n 0 = 0 := by
  intro n
  induction n with
  | zero => rfl
  | succ n ih => exact ih
theorem s5_least_l {post : Int32 → Prop} {s : Int32} {n : Nat} (hn : n < 2 ^ 31) : ∀ (c i : Nat) (x : Int32), i + c = n → post (s &&& (clr c x ^^^ (-1))) → wX5_least_4 post (c + 1) s (nI n) x (nI i) := by
  intro c
  induction c with
  | zero =>
    intro i x e h
    rw [wX5_least_4]
    exact br_t (nI_le (by omega) (by omega)) h
  | succ c ih =>
    intro i x e h
    rw [wX5_least_4]
    refine br_f (nI_ge (by omega) (by omega)) (fun y ey => ?_)
    rw [ey, ← nI_succ]
    exact ih _ _ (by omega) h
theorem s5_least {post : Int32 → Prop} {s v : Int32} (hv : Rg 9 v) (h : post (lst s v.toNatClampNeg)) : wX5_least post s v := by
  obtain ⟨n, hn, rfl⟩ := hv
  rw [nI_clamp (by omega)] at h
  exact ⟨n + 1, s5_least_l (by omega) n 0 s (by omega) h⟩
theorem s0_leastOf_l {post : Int32 → Prop} {s : Int32} {n : Nat} (hn : n < 2 ^ 31) : ∀ (c i : Nat) (x : Int32), i + c = n → post (s &&& (clr c x ^^^ (-1))) → wX0_leastOf_4 post (c + 1) s (nI n) x (nI i) := by
  intro c
  induction c with
  | zero =>
    intro i x e h
    rw [wX0_leastOf_4]
    exact br_t (nI_le (by omega) (by omega)) h
  | succ c ih =>
    intro i x e h
    rw [wX0_leastOf_4]
    refine br_f (nI_ge (by omega) (by omega)) (br_c (fun c0 => ?_) (fun _ y ey => ?_))
    · rw [c0, clr_0] at h
      rw [c0]
      exact h
    · rw [ey, ← nI_succ]
      exact ih _ _ (by omega) h
theorem s0_leastOf {post : Int32 → Prop} {s v : Int32} (hv : Rg 9 v) (h : post (lst s v.toNatClampNeg)) : wX0_leastOf post s v := by
  obtain ⟨n, hn, rfl⟩ := hv
  rw [nI_clamp (by omega)] at h
  exact ⟨n + 1, s0_leastOf_l (by omega) n 0 s (by omega) h⟩
/-! kinds -/
theorem sw15 {x : Int32} {A1 A2 A3 A4 A5 D : Prop} (h : Rg 5 x) (h0 : x = 0 → D) (h1 : x = 1 → A1) (h2 : x = 2 → A2) (h3 : x = 3 → A3) (h4 : x = 4 → A4) (h5 : x = 5 → A5) : (x = 1 → A1) ∧ (x = 2 → A2) ∧ (x = 3 → A3) ∧ (x = 4 → A4) ∧ (x = 5 → A5) ∧ ((x.toInt < 1 ∨ 5 < x.toInt) → D) := by
  refine ⟨h1, h2, h3, h4, h5, fun q => h0 ?_⟩
  obtain ⟨j, hj, rfl⟩ := h
  rw [nI_toInt (by omega)] at q
  obtain rfl : j = 0 := by omega
  rfl
def kWipes (k g : Int32) : Int32 := if k = 1 then 12 - g / 10 + 3 else if k = 2 then (if 20 ≤ g then 12 - g / 10 else (12 - g / 10) * 2) else if k = 3 then 9 else if k = 4 then 12 - g / 10 + 3 - 5 else if k = 5 then (if 20 ≤ g then 12 - g / 10 else (12 - g / 10) * 2) - 1 else 12 - g / 10
def kTakes (k g : Int32) : Int32 := if k = 1 then 2 else if k = 2 then (if g ≤ 60 then 1 else 0) else if k = 3 then 9 else if k = 4 then 2 else if k = 5 then 0 else 1
def kLeaves (k g : Int32) : Int32 := if k = 1 then g / 25 + 1 else if k = 2 then g / 25 else if k = 3 then (if 0 < g / 25 - 1 then g / 25 - 1 else 0) else if k = 4 then (g / 25 + 1) * 2 else if k = 5 then (if g = 0 then g / 25 + 1 else g / 25) else g / 25
def kKeeps (k s : Int32) : Bool := if k = 2 then false else if k = 5 then decide (¬ popc s < 5) else true
theorem k_fin : ∀ k, k < 6 → ∀ g, g < 100 → (kWipes (nI k) (nI g)).toBitVec.toNat ≤ 24 ∧ (kTakes (nI k) (nI g)).toBitVec.toNat ≤ 9 ∧ (kLeaves (nI k) (nI g)).toBitVec.toNat ≤ 9 := by decide +kernel
theorem Rg_kWipes {k g : Int32} (hk : Rg 5 k) (hg : Rg 99 g) : Rg 24 (kWipes k g) := by
  obtain ⟨a, ha, rfl⟩ := hk
  obtain ⟨b, hb, rfl⟩ := hg
  exact Rg_bv (k_fin a (by omega) b (by omega)).1
theorem Rg_kTakes {k g : Int32} (hk : Rg 5 k) (hg : Rg 99 g) : Rg 9 (kTakes k g) := by
  obtain ⟨a, ha, rfl⟩ := hk
  obtain ⟨b, hb, rfl⟩ := hg
  exact Rg_bv (k_fin a (by omega) b (by omega)).2.1
theorem Rg_kLeaves {k g : Int32} (hk : Rg 5 k) (hg : Rg 99 g) : Rg 9 (kLeaves k g) := by
  obtain ⟨a, ha, rfl⟩ := hk
  obtain ⟨b, hb, rfl⟩ := hg
  exact Rg_bv (k_fin a (by omega) b (by omega)).2.2
theorem s1_wipes {post : Int32 → Prop} {k g : Int32} (hk : Rg 5 k) (h : post (kWipes k g)) : wX1_wipes post k g := by
  intro y1 e1 y2 e2
  subst e1; subst e2
  refine br_c (fun c => ?_) (fun c => ?_)
  · refine sw15 hk (fun e => ?_) (fun e => ?_) (fun e => ?_) (fun e => ?_) (fun e => ?_) (fun e => ?_) <;> (subst e; simpa [kWipes, c] using h)
  · refine sw15 hk (fun e => ?_) (fun e => ?_) (fun e => ?_) (fun e => ?_) (fun e => ?_) (fun e => ?_) <;> (subst e; simpa [kWipes, c] using h)
theorem s1_takesUp {post : Int32 → Prop} {k g : Int32} (hk : Rg 5 k) (h : post (kTakes k g)) : wX1_takesUp post k g := by
  refine sw15 hk (fun e => ?_) (fun e => ?_) (fun e => ?_) (fun e => ?_) (fun e => ?_) (fun e => ?_)
  all_goals subst e
  all_goals first | exact h | (refine br_c (fun c => ?_) (fun c => ?_) <;> simpa [kTakes, c] using h)
theorem s1_leaves {post : Int32 → Prop} {k g : Int32} (hk : Rg 5 k) (h : post (kLeaves k g)) : wX1_leaves post k g := by
  intro y1 e1
  subst e1
  refine sw15 hk (fun e => ?_) (fun e => ?_) (fun e => ?_) (fun e => ?_) (fun e => ?_) (fun e => ?_)
  all_goals subst e
  all_goals first | exact h | (refine ⟨fun c => ?_, fun c => ?_⟩ <;> simpa [kLeaves, c] using h)
theorem s1_keeps {post : Int32 → Prop} {k s : Int32} (h : post (if kKeeps k s then 1 else 0)) : wX1_keeps post k s := by
  refine ⟨fun e => ?_, fun e => ?_, fun e => ?_⟩
  · subst e; exact h
  · subst e
    refine s6_bitCount (br_c (fun c => ?_) (fun c => ?_)) <;> simpa [kKeeps, c] using h
  · simpa [kKeeps, e.1, e.2] using h
/-! the reference's -/
theorem s5_wipes {post : Int32 → Prop} {M : MSt} {d : Nat} (hd : d < 8) (hk : Rg 5 (h_kinds (rowH (m_row M)) d)) (hg : Rg 99 (h_grimes (rowH (m_row M)) d)) (h : post (kWipes (h_kinds (rowH (m_row M)) d) (h_grimes (rowH (m_row M)) d))) : wX5_wipes post M (nI d) := by
  refine s5_its_grimes hd (fun y ey => ?_)
  subst ey
  have f : ∀ g, g < 100 → 12 - nI g / 10 + 3 - 5 = 12 - nI g / 10 - 2 ∧ 2 * (12 - nI g / 10) = (12 - nI g / 10) * 2 := by decide +kernel
  obtain ⟨g, hg1, hg2⟩ := hg
  obtain ⟨f1, f2⟩ := f g (by omega)
  rw [← hg2] at f1 f2
  refine br_c (fun c => ?_) (fun c => ?_)
  · refine s5_its_kinds hd ?_
    generalize h_kinds (rowH (m_row M)) d = k at hk h ⊢
    refine sw15 hk (fun e => ?_) (fun e => ?_) (fun e => ?_) (fun e => ?_) (fun e => ?_) (fun e => ?_) <;> (subst e; simpa [kWipes, c, f1, f2] using h)
  · refine s5_its_kinds hd ?_
    generalize h_kinds (rowH (m_row M)) d = k at hk h ⊢
    refine sw15 hk (fun e => ?_) (fun e => ?_) (fun e => ?_) (fun e => ?_) (fun e => ?_) (fun e => ?_) <;> (subst e; simpa [kWipes, c, f1, f2] using h)
theorem s5_takesUp {post : Int32 → Prop} {M : MSt} {d : Nat} (hd : d < 8) (hk : Rg 5 (h_kinds (rowH (m_row M)) d)) (h : post (kTakes (h_kinds (rowH (m_row M)) d) (h_grimes (rowH (m_row M)) d))) : wX5_takesUp post M (nI d) := by
  refine s5_its_kinds hd ?_
  generalize h_kinds (rowH (m_row M)) d = k at hk h ⊢
  refine sw15 hk (fun e => ?_) (fun e => ?_) (fun e => ?_) (fun e => ?_) (fun e => ?_) (fun e => ?_)
  all_goals subst e
  all_goals first | exact h | (refine s5_its_grimes hd (br_c (fun c => ?_) (fun c => ?_)) <;> simpa [kTakes, c] using h)
theorem s5_leaves {post : Int32 → Prop} {M : MSt} {d : Nat} (hd : d < 8) (hk : Rg 5 (h_kinds (rowH (m_row M)) d)) (hg : Rg 99 (h_grimes (rowH (m_row M)) d)) (h : post (kLeaves (h_kinds (rowH (m_row M)) d) (h_grimes (rowH (m_row M)) d))) : wX5_leaves post M (nI d) := by
  refine s5_its_grimes hd (fun y ey => ?_)
  subst ey
  have f : ∀ g, g < 100 → 2 * (nI g / 25 + 1) = (nI g / 25 + 1) * 2 ∧ (nI g / 25 ≤ 0 ↔ ¬ 0 < nI g / 25 - 1 ∧ nI g / 25 ≤ 0) ∧ (¬ nI g / 25 ≤ 0 → (if 0 < nI g / 25 - 1 then nI g / 25 - 1 else 0) = nI g / 25 - 1) := by decide +kernel
  obtain ⟨g, hg1, hg2⟩ := hg
  obtain ⟨f1, f2, f3⟩ := f g (by omega)
  rw [← hg2] at f1 f2 f3
  refine s5_its_kinds hd ?_
  generalize h_kinds (rowH (m_row M)) d = k at hk h ⊢
  refine sw15 hk (fun e => ?_) (fun e => ?_) (fun e => ?_) (fun e => ?_) (fun e => ?_) (fun e => ?_)
  · subst e; exact h
  · subst e; exact h
  · subst e; exact h
  · subst e
    refine br_c (fun c => ?_) (fun c => ?_)
    · have := (f2.mp c).1
      simpa [kLeaves, this] using h
    · have h' : post (if 0 < h_grimes (rowH (m_row M)) d / 25 - 1 then h_grimes (rowH (m_row M)) d / 25 - 1 else 0) := h
      rw [f3 c] at h'
      exact h'
  · subst e
    rw [f1]
    exact h
  · subst e
    refine s5_its_grimes hd ⟨fun c => ?_, fun c => ?_⟩ <;> simpa [kLeaves, c] using h
theorem s5_isKeeping {post : Int32 → Prop} {M : MSt} {d : Nat} (hd : d < 8) (hh : Rg 1023 (h_held (rowH (m_row M)) d)) (h : post (if kKeeps (h_kinds (rowH (m_row M)) d) (h_held (rowH (m_row M)) d) then 1 else 0)) : wX5_isKeeping post M (nI d) := by
  refine s5_its_kinds hd ?_
  generalize h_kinds (rowH (m_row M)) d = k at h ⊢
  refine ⟨fun c => br_c (fun c2 => ?_) (fun c2 => ?_), fun c => ?_⟩
  · subst c2; exact h
  · simpa [kKeeps, c, c2] using h
  · subst c
    refine s5_its_held hd (s5_bits hh (br_c (fun c => ?_) (fun c => ?_))) <;> simpa [kKeeps, c] using h
