/-! days, sums, washing, shaking, one more, images of houses -/
theorem okS.it {D : Nat} {f : Nat → HSt → HSt} {n : Nat} (hf : ∀ i T, i < n → okS D T → okS D (f i T)) : ∀ (c i : Nat) (S : HSt), i + c ≤ n → okS D S → okS D (itN f c i S) := by
  intro c
  induction c with
  | zero => intro i S _ h; exact h
  | succ c ih => intro i S hi h; exact ih (i + 1) _ (by omega) (hf i S (by omega) h)
theorem it_inv {α β : Type} {f : Nat → α → α} (g : α → β) (hf : ∀ i a, g (f i a) = g a) : ∀ (c i : Nat) (a : α), g (itN f c i a) = g a := by
  intro c
  induction c with
  | zero => intro i a; rfl
  | succ c ih => intro i a; exact (ih (i + 1) _).trans (hf i a)
def thF (d : Nat) (T : HSt) : HSt := gtS T d (whN T d)
def duF (r : Nat) (T : HSt) : HSt := h_dust_s T (upd (h_dust T) r (if h_dust T r + h_fall T < 99 then h_dust T r + h_fall T else 99))
def thS (S : HSt) : HSt := itN thF (h_dusters S).toNatClampNeg 0 S
def duS (S : HSt) : HSt := itN duF 8 0 S
def nx (T : HSt) : HSt := h_day_s T (h_day T + 1)
def dayS (S : HSt) : HSt := nx (duS (thS S))
def nDay : Nat → HSt → HSt
  | 0, S => S
  | n + 1, S => nDay n (dayS S)
theorem nDay_s : ∀ (n : Nat) (S : HSt), nDay (n + 1) S = dayS (nDay n S) := by
  intro n
  induction n with
  | zero => intro S; rfl
  | succ n ih => intro S; exact ih (dayS S)
theorem nDay_add : ∀ (a b : Nat) (S : HSt), nDay (a + b) S = nDay b (nDay a S) := by
  intro a
  induction a with
  | zero => intro b S; rw [Nat.zero_add]; rfl
  | succ a ih => intro b S; rw [Nat.succ_add]; exact ih b (dayS S)
theorem du_fin : ∀ a, a < 100 → ∀ f, f < 21 → (if nI a + nI f < 99 then nI a + nI f else 99).toBitVec.toNat ≤ 99 ∧ 0 ≤ nI a + nI f := by decide +kernel
theorem du_Rg {D : Nat} {S : HSt} (ok : okS D S) (r : Nat) : Rg 99 (if h_dust S r + h_fall S < 99 then h_dust S r + h_fall S else 99) ∧ 0 ≤ h_dust S r + h_fall S := by
  obtain ⟨a, ha, ea⟩ := ok.dust r
  obtain ⟨f, hf, ef⟩ := ok.fall
  rw [ea, ef]
  have q := du_fin a (by omega) f (by omega)
  exact ⟨Rg_bv q.1, q.2⟩
theorem okS.th {D : Nat} {S : HSt} (ok : okS D S) : okS D (thS S) := by
  obtain ⟨k, hk, ek⟩ := ok.many
  unfold thS
  rw [ek, nI_clamp (by omega)]
  exact okS.it (n := 8) (fun i T hi h => h.gt hi (whN_lt T i)) k 0 S (by omega) ok
theorem okS.du {D : Nat} {S : HSt} (ok : okS D S) : okS D (duS S) := okS.it (n := 8) (fun i _ hi h => h.set_dust hi (du_Rg h i).1) 8 0 S (by omega) ok
theorem okS.nx {D : Nat} {T : HSt} (hD : D < 2 ^ 20) (k : okS D T) : okS (D + 1) (nx T) := by
  refine k.set_day ?_
  obtain ⟨a, ha, ea⟩ := k.day
  exact ⟨a + 1, by omega, by rw [ea]; exact nI_1 a⟩
theorem okS.day1 {D : Nat} {S : HSt} (hD : D < 2 ^ 20) (ok : okS D S) : okS (D + 1) (dayS S) := okS.nx hD ok.th.du
theorem okS.dayN {D : Nat} : ∀ (n : Nat) {S : HSt}, D + n < 2 ^ 20 → okS D S → okS (D + n) (nDay n S) := by
  intro n
  induction n generalizing D with
  | zero => intro S _ ok; exact ok
  | succ n ih =>
    intro S hD ok
    have := ih (D := D + 1) (S := dayS S) (by omega) (ok.day1 (by omega))
    exact this.up (by omega)
theorem nx_many (T : HSt) : h_dusters (nx T) = h_dusters T := rfl
theorem gt_many (T : HSt) (d r : Nat) : h_dusters (gtS T d r) = h_dusters T := rfl
theorem duF_many (T : HSt) (r : Nat) : h_dusters (duF r T) = h_dusters T := rfl
theorem th_many (S : HSt) (c i : Nat) : h_dusters (itN thF c i S) = h_dusters S := it_inv (f := thF) h_dusters (fun i a => gt_many a i (whN a i)) c i S
theorem du_many (S : HSt) (c i : Nat) : h_dusters (itN duF c i S) = h_dusters S := it_inv (f := duF) h_dusters (fun i a => duF_many a i) c i S
theorem dayS_many (S : HSt) : h_dusters (dayS S) = h_dusters S := (nx_many (duS (thS S))).trans ((du_many (thS S) 8 0).trans (th_many S _ 0))
theorem nDay_many : ∀ (n : Nat) (S : HSt), h_dusters (nDay n S) = h_dusters S := by
  intro n
  induction n with
  | zero => intro S; rfl
  | succ n ih => intro S; exact (ih (dayS S)).trans (dayS_many S)
theorem s0_goDay_29 {post : HSt → Prop} : ∀ (c i : Nat) (T : HSt), i + c = 8 → post (nx (itN duF c i T)) → wX0_goDay_29 post (c + 1) T (nI i) := by
  intro c
  induction c with
  | zero =>
    intro i T e h
    rw [wX0_goDay_29]
    refine br_t (nI_le (a := 8) (by omega) (by omega)) (fun S3 e3 => ?_)
    rw [e3]
    exact h
  | succ c ih =>
    intro i T e h
    have hi : i < 8 := by omega
    rw [wX0_goDay_29]
    simp only [c8 hi]
    refine br_f (nI_ge (b := 8) (by omega) (by omega)) ⟨v8 hi, v8 hi, fun S4 e4 => ?_⟩
    rw [e4, ← nI_succ]
    exact ih (i + 1) _ (by omega) h
theorem s0_goDay_2 {post : HSt → Prop} {D : Nat} (hD : D < 2 ^ 20) {k : Nat} (hk : k ≤ 8) : ∀ (c i : Nat) (T : HSt), okS D T → h_dusters T = nI k → i + c = k → post (nx (duS (itN thF c i T))) → wX0_goDay_2 post (c + 1) T (nI i) := by
  intro c
  induction c with
  | zero =>
    intro i T ok em e h
    rw [wX0_goDay_2, em]
    exact br_t (nI_le (by omega) (by omega)) ⟨9, s0_goDay_29 8 0 T rfl h⟩
  | succ c ih =>
    intro i T ok em e h
    have hi : i < 8 := by omega
    rw [wX0_goDay_2, em]
    refine br_f (nI_ge (by omega) (by omega)) ?_
    refine s0_whereIs hD ok hi (s0_goThrough ok hi (whN_lt T i) ?_)
    rw [← nI_succ]
    exact ih (i + 1) _ (ok.gt hi (whN_lt T i)) em (by omega) h
theorem s0_goDay {post : HSt → Prop} {D : Nat} {S : HSt} (hD : D < 2 ^ 20) (ok : okS D S) (h : post (dayS S)) : wX0_goDay post S := by
  obtain ⟨k, hk, ek⟩ := ok.many
  unfold dayS thS at h
  rw [ek, nI_clamp (by omega)] at h
  exact ⟨k + 1, s0_goDay_2 hD hk k 0 S ok ek (by omega) h⟩
theorem s0_goDays_2 {post : HSt → Prop} {n : Nat} (hn : n < 2 ^ 20) : ∀ (c i D : Nat) (T : HSt), D + c < 2 ^ 20 → okS D T → i + c = n → post (nDay c T) → wX0_goDays_2 post (c + 1) T (nI n) (nI i) := by
  intro c
  induction c with
  | zero =>
    intro i D T hD ok e h
    rw [wX0_goDays_2]
    exact br_t (nI_le (by omega) (by omega)) h
  | succ c ih =>
    intro i D T hD ok e h
    rw [wX0_goDays_2]
    refine br_f (nI_ge (by omega) (by omega)) (s0_goDay (by omega) ok ?_)
    rw [← nI_succ]
    exact ih (i + 1) (D + 1) _ (by omega) (ok.day1 (by omega)) (by omega) h
theorem s0_goDays {post : HSt → Prop} {D n : Nat} {S : HSt} (hD : D + n < 2 ^ 20) (ok : okS D S) (h : post (nDay n S)) : wX0_goDays post S (nI n) := ⟨n + 1, s0_goDays_2 (by omega) n 0 D S (by omega) ok (by omega) h⟩
/-! the reference's days -/
theorem s5_oneDay_31 {post : MSt → Prop} {D : Nat} : ∀ (c i : Nat) (M : MSt), okS D (rowH (m_row M)) → i + c = 8 → (∀ q, rowH q = nx (itN duF c i (rowH (m_row M))) → post (m_row_s M q)) → wX5_oneDay_31 post (c + 1) M (nI i) := by
  intro c
  induction c with
  | zero =>
    intro i M ok e h
    rw [wX5_oneDay_31]
    refine br_t (nI_le (a := 8) (by omega) (by omega)) ⟨vp0, vp0, fun S3 e3 => ?_⟩
    rw [e3, cl0]
    exact h _ rowU_day
  | succ c ih =>
    intro i M ok e h
    have hi : i < 8 := by omega
    rw [wX5_oneDay_31]
    refine br_f (nI_ge (b := 8) (by omega) (by omega)) (s5_there_dust hi ⟨vp1, ?_⟩)
    rw [cl1]
    refine s5_held_gt (v := h_dust (rowH (m_row M)) i + h_fall (rowH (m_row M))) (du_Rg ok i).2 (s5_places_dust hi (fun q eq => ?_))
    rw [← nI_succ]
    refine ih (i + 1) (m_row_s M q) ?_ (by omega) ?_
    · show okS D (rowH q)
      rw [eq]
      exact ok.set_dust hi (du_Rg ok i).1
    · show ∀ q1, rowH q1 = nx (itN duF c (i + 1) (rowH q)) → post (m_row_s M q1)
      rw [eq]
      exact h
theorem s5_oneDay_2 {post : MSt → Prop} {D : Nat} (hD : D < 2 ^ 20) {k : Nat} (hk : k ≤ 8) : ∀ (c i : Nat) (M : MSt), okS D (rowH (m_row M)) → h_dusters (rowH (m_row M)) = nI k → i + c = k → (∀ q, rowH q = nx (duS (itN thF c i (rowH (m_row M)))) → post (m_row_s M q)) → wX5_oneDay_2 post (c + 1) M (nI i) := by
  intro c
  induction c with
  | zero =>
    intro i M ok em e h
    rw [wX5_oneDay_2, cl2, show m_row M 2 = nI k from em]
    exact ⟨vp2, br_t (nI_le (by omega) (by omega)) ⟨9, s5_oneDay_31 8 0 M ok rfl h⟩⟩
  | succ c ih =>
    intro i M ok em e h
    have hi : i < 8 := by omega
    rw [wX5_oneDay_2, cl2, show m_row M 2 = nI k from em]
    refine ⟨vp2, br_f (nI_ge (by omega) (by omega)) (s5_roomOfOne hD ok hi (s5_goes ok hi (whN_lt _ i) (fun q eq => ?_)))⟩
    rw [← nI_succ]
    refine ih (i + 1) (m_row_s M q) ?_ ?_ (by omega) ?_
    · show okS D (rowH q)
      rw [eq]
      exact ok.gt hi (whN_lt _ i)
    · show h_dusters (rowH q) = nI k
      rw [eq]
      exact em
    · show ∀ q1, rowH q1 = nx (duS (itN thF c (i + 1) (rowH q))) → post (m_row_s M q1)
      rw [eq]
      exact h
theorem s5_oneDay {post : MSt → Prop} {D : Nat} {M : MSt} (hD : D < 2 ^ 20) (ok : okS D (rowH (m_row M))) (h : ∀ q, rowH q = dayS (rowH (m_row M)) → post (m_row_s M q)) : wX5_oneDay post M := by
  obtain ⟨k, hk, ek⟩ := ok.many
  unfold dayS thS at h
  rw [ek, nI_clamp (by omega)] at h
  exact ⟨k + 1, s5_oneDay_2 hD hk k 0 M ok ek (by omega) h⟩
theorem s5_passes_2 {post : MSt → Prop} {n : Nat} (hn : n < 2 ^ 20) : ∀ (c i D : Nat) (M : MSt), D + c < 2 ^ 20 → okS D (rowH (m_row M)) → i + c = n → (∀ q, rowH q = nDay c (rowH (m_row M)) → post (m_row_s M q)) → wX5_passes_2 post (c + 1) M (nI n) (nI i) := by
  intro c
  induction c with
  | zero =>
    intro i D M hD ok e h
    rw [wX5_passes_2]
    exact br_t (nI_le (by omega) (by omega)) (h (m_row M) rfl)
  | succ c ih =>
    intro i D M hD ok e h
    rw [wX5_passes_2]
    refine br_f (nI_ge (by omega) (by omega)) (s5_oneDay (by omega) ok (fun q eq => ?_))
    rw [← nI_succ]
    refine ih (i + 1) (D + 1) (m_row_s M q) (by omega) ?_ (by omega) ?_
    · show okS (D + 1) (rowH q)
      rw [eq]
      exact ok.day1 (by omega)
    · show ∀ q1, rowH q1 = nDay c (rowH q) → post (m_row_s M q1)
      rw [eq]
      exact h
theorem s5_passes {post : MSt → Prop} {D n : Nat} {M : MSt} (hD : D + n < 2 ^ 20) (ok : okS D (rowH (m_row M))) (h : ∀ q, rowH q = nDay n (rowH (m_row M)) → post (m_row_s M q)) : wX5_passes post M (nI n) := ⟨n + 1, s5_passes_2 (by omega) n 0 D M (by omega) ok (by omega) h⟩
/-! washing, shaking -/
def waF (s : Int32) (r : Nat) (T : HSt) : HSt := h_memories_s T (upd (h_memories T) r (h_memories T r ||| s))
def wa2 (T : HSt) (d : Nat) : HSt := h_grimes_s (h_held_s T (upd (h_held T) d 0)) (upd (h_grimes T) d 0)
def waS (S : HSt) (d : Nat) : HSt := wa2 (itN (waF (h_held S d)) 8 0 S) d
theorem okS.waI {D : Nat} {S : HSt} (ok : okS D S) {s : Int32} (hs : Rg 1023 s) : okS D (itN (waF s) 8 0 S) := okS.it (n := 8) (fun i _ hi h => h.set_memories hi (Rg_or (h.mem i) hs)) 8 0 S (by omega) ok
theorem okS.wa2 {D : Nat} {S : HSt} (ok : okS D S) {d : Nat} (hd : d < 8) : okS D (wa2 S d) := (ok.set_held hd Rg0).set_grimes hd Rg0
theorem okS.wa {D : Nat} {S : HSt} (ok : okS D S) {d : Nat} (hd : d < 8) : okS D (waS S d) := okS.wa2 (ok.waI (ok.held d)) hd
theorem wa2_many (T : HSt) (d : Nat) : h_dusters (wa2 T d) = h_dusters T := rfl
theorem waF_many (s : Int32) (r : Nat) (T : HSt) : h_dusters (waF s r T) = h_dusters T := rfl
theorem wa_many (S : HSt) (d : Nat) : h_dusters (waS S d) = h_dusters S := (wa2_many _ d).trans (it_inv (f := waF (h_held S d)) h_dusters (waF_many _) 8 0 S)
theorem s0_washOne_9 {post : Int32 → HSt → Prop} {d : Nat} (hd : d < 8) {s : Int32} : ∀ (c i : Nat) (T : HSt), i + c = 8 → post s (wa2 (itN (waF s) c i T) d) → wX0_washOne_9 post (c + 1) T (nI d) s (nI i) := by
  intro c
  induction c with
  | zero =>
    intro i T e h
    rw [wX0_washOne_9]
    simp only [c8 hd, forall_eq]
    exact br_t (nI_le (a := 8) (by omega) (by omega)) ⟨v8 hd, v8 hd, h⟩
  | succ c ih =>
    intro i T e h
    have hi : i < 8 := by omega
    rw [wX0_washOne_9]
    simp only [c8 hd, c8 hi, forall_eq]
    refine br_f (nI_ge (b := 8) (by omega) (by omega)) ⟨v8 hi, v8 hi, ?_⟩
    rw [← nI_succ]
    exact ih (i + 1) _ (by omega) h
theorem s0_washOne {post : Int32 → HSt → Prop} {S : HSt} {d : Nat} (hd : d < 8) (h : post (h_held S d) (waS S d)) : wX0_washOne post S (nI d) := by
  unfold wX0_washOne
  simp only [c8 hd, forall_eq]
  exact ⟨v8 hd, 9, s0_washOne_9 hd 8 0 S rfl h⟩
theorem s5_washes_9 {post : Int32 → MSt → Prop} {d : Nat} (hd : d < 8) {s : Int32} : ∀ (c i : Nat) (M : MSt), i + c = 8 → (∀ q, rowH q = wa2 (itN (waF s) c i (rowH (m_row M))) d → post s (m_row_s M q)) → wX5_washes_9 post (c + 1) M (nI d) s (nI i) := by
  intro c
  induction c with
  | zero =>
    intro i M e h
    rw [wX5_washes_9]
    refine br_t (nI_le (a := 8) (by omega) (by omega)) (s5_puts_held hd (fun q1 e1 => s5_puts_grimes hd (fun q2 e2 => ?_)))
    replace e2 : rowH q2 = h_grimes_s (rowH q1) (upd (h_grimes (rowH q1)) d 0) := e2
    refine h q2 ?_
    rw [e2, e1]
    rfl
  | succ c ih =>
    intro i M e h
    have hi : i < 8 := by omega
    rw [wX5_washes_9]
    refine br_f (nI_ge (b := 8) (by omega) (by omega)) (s5_there_memories hi (s5_places_memories hi (fun q eq => ?_)))
    rw [← nI_succ]
    refine ih (i + 1) (m_row_s M q) (by omega) ?_
    show ∀ q1, rowH q1 = wa2 (itN (waF s) c (i + 1) (rowH q)) d → post s (m_row_s M q1)
    rw [eq]
    exact h
theorem s5_washes {post : Int32 → MSt → Prop} {M : MSt} {d : Nat} (hd : d < 8) (h : ∀ q, rowH q = waS (rowH (m_row M)) d → post (h_held (rowH (m_row M)) d) (m_row_s M q)) : wX5_washes post M (nI d) :=
  s5_its_held hd ⟨9, s5_washes_9 hd 8 0 M rfl h⟩
def shR1 (S : HSt) (d : Nat) : Nat := (whN S d + 1) % 8
def shS (S : HSt) (d : Nat) : HSt := h_grimes_s (h_held_s (h_memories_s S (upd (h_memories S) (shR1 S d) (h_memories S (shR1 S d) ||| h_held S d))) (upd (h_held S) d 0)) (upd (h_grimes S) d (h_grimes S d / 2))
theorem shR1_lt (S : HSt) (d : Nat) : shR1 S d < 8 := Nat.mod_lt _ (by decide)
theorem okS.sh {D : Nat} {S : HSt} (ok : okS D S) {d : Nat} (hd : d < 8) : okS D (shS S d) := by
  obtain ⟨g, hg, eg⟩ := ok.grime d
  have k1 := ok.set_memories (shR1_lt S d) (Rg_or (ok.mem (shR1 S d)) (ok.held d))
  have k2 := k1.set_held hd Rg0
  refine k2.set_grimes hd (v := h_grimes S d / 2) ⟨g / 2, by omega, ?_⟩
  rw [eg]
  exact pk_div (d := 2) (by omega) (by decide) (by decide)
theorem s0_shakeOne {post : Int32 → HSt → Prop} {D : Nat} {S : HSt} {d : Nat} (hD : D < 2 ^ 20) (ok : okS D S) (hd : d < 8) (h : post (h_held S d) (shS S d)) : wX0_shakeOne post S (nI d) := by
  unfold wX0_shakeOne
  simp only [c8 hd, forall_eq]
  refine ⟨v8 hd, s0_whereIs hD ok hd ?_⟩
  have hw := whN_lt S d
  have e : (nI (whN S d) + 1) &&& 7 = nI (shR1 S d) := by
    rw [nI_1]
    exact pk_andN (by omega) 3 (by decide)
  simp only [e, c8 (shR1_lt S d)]
  exact ⟨v8 (shR1_lt S d), v8 (shR1_lt S d), v8 hd, v8 hd, v8 hd, h⟩
theorem s5_shakes {post : Int32 → MSt → Prop} {D : Nat} {M : MSt} {d : Nat} (hD : D < 2 ^ 20) (ok : okS D (rowH (m_row M))) (hd : d < 8) (h : ∀ q, rowH q = shS (rowH (m_row M)) d → post (h_held (rowH (m_row M)) d) (m_row_s M q)) : wX5_shakes post M (nI d) := by
  refine s5_its_held hd (s5_roomOfOne hD ok hd (fun y ey => ?_))
  have hw := whN_lt (rowH (m_row M)) d
  have e : (nI (whN (rowH (m_row M)) d) + 1) - (nI (whN (rowH (m_row M)) d) + 1) / 8 * 8 = nI (shR1 (rowH (m_row M)) d) := by
    rw [nI_1]
    exact pk_rem (d := 8) (by omega) (by decide) (by decide)
  rw [e] at ey
  subst ey
  refine s5_there_memories (shR1_lt _ d) (s5_places_memories (shR1_lt _ d) (fun q1 e1 => s5_puts_held hd (fun q2 e2 => ?_)))
  replace e2 : rowH q2 = h_held_s (rowH q1) (upd (h_held (rowH q1)) d 0) := e2
  refine s5_its_grimes hd (s5_puts_grimes hd (fun q3 e3 => ?_))
  replace e3 : rowH q3 = h_grimes_s (rowH q2) (upd (h_grimes (rowH q2)) d (h_grimes (rowH q2) d / 2)) := e3
  refine h q3 ?_
  rw [e3, e2, e1]
  rfl
/-! one more -/
def adN (S : HSt) (n : Nat) (k s g : Int32) : HSt := h_dusters_s (h_rounds_s (h_grimes_s (h_held_s (h_kinds_s S (upd (h_kinds S) n k)) (upd (h_held S) n s)) (upd (h_grimes S) n g)) (upd (h_rounds S) n (nI n))) (h_dusters S + 1)
def adS (S : HSt) (k s g : Int32) : HSt := adN S (h_dusters S).toNatClampNeg k s g
theorem adS_n {n : Nat} {S : HSt} (hn : n < 8) (en : h_dusters S = nI n) (k s g : Int32) : adS S k s g = adN S n k s g := by
  unfold adS
  rw [en, c8 hn]
theorem okS.ad {D n : Nat} {S : HSt} (ok : okS D S) (hn : n < 8) (en : h_dusters S = nI n) {k s g : Int32} (hk : Rg 5 k) (hs : Rg 1023 s) (hg : Rg 99 g) : okS D (adS S k s g) := by
  rw [adS_n hn en]
  have k1 := (((ok.set_kinds hn hk).set_held hn hs).set_grimes hn hg).set_rounds hn (v := nI n) ⟨n, by omega, rfl⟩
  exact k1.set_dusters (v := h_dusters S + 1) ⟨n + 1, by omega, by rw [en]; exact nI_1 n⟩
theorem s0_addDuster {post : Int32 → HSt → Prop} {n : Nat} {S : HSt} {k : Int32} (hn : n < 8) (en : h_dusters S = nI n) (h : post (nI n) (adS S k 0 0)) : wX0_addDuster post S k := by
  rw [adS_n hn en] at h
  unfold wX0_addDuster
  simp only [en, c8 hn, forall_eq]
  exact br_t (nI_lt (b := 8) hn (by decide)) ⟨v8 hn, v8 hn, v8 hn, v8 hn, h⟩
theorem s0_addFull {post : Int32 → HSt → Prop} {S : HSt} {k : Int32} (en : h_dusters S = nI 8) (h : post (-1) S) : wX0_addDuster post S k := by
  unfold wX0_addDuster
  rw [en]
  exact br_f (by decide) h
theorem s5_adds {post : MSt → Prop} {n : Nat} {M : MSt} {k s g : Int32} (hn : n < 8) (en : h_dusters (rowH (m_row M)) = nI n) (h : ∀ q, rowH q = adS (rowH (m_row M)) k s g → post (m_row_s M q)) : wX5_adds post M k s g := by
  rw [adS_n hn en] at h
  refine ⟨vp2, fun y ey => ?_⟩
  rw [cl2, show m_row M 2 = nI n from en] at ey
  subst ey
  refine s5_puts_kinds hn (fun q1 e1 => s5_puts_held hn (fun q2 e2 => s5_puts_grimes hn (fun q3 e3 => s5_puts_rounds hn (fun q4 e4 => ⟨vp2, vp2, fun S6 e6 => ?_⟩))))
  replace e2 : rowH q2 = h_held_s (rowH q1) (upd (h_held (rowH q1)) n s) := e2
  replace e3 : rowH q3 = h_grimes_s (rowH q2) (upd (h_grimes (rowH q2)) n g) := e3
  replace e4 : rowH q4 = h_rounds_s (rowH q3) (upd (h_rounds (rowH q3)) n (nI n)) := e4
  subst e6
  rw [cl2]
  refine h _ ?_
  show rowH (upd q4 2 (q4 2 + 1)) = _
  rw [rowU_dusters, show q4 2 = h_dusters (rowH q4) from rfl, e4, e3, e2, e1]
  rfl
/-! a house becomes as another -/
theorem cpy8 {f g : Nat → Int32} (hf : ∀ i, 8 ≤ i → f i = 0) (hg : ∀ i, 8 ≤ i → g i = 0) : va_cpy f g 0 0 8 = f := by
  funext i
  by_cases c : i < 8
  · rw [pk_cpy_in (by omega) (by omega)]
    congr 1
    omega
  · rw [pk_cpy_out (by omega), hf i (by omega), hg i (by omega)]
theorem s0_becomeAs {post : HSt × HSt → Prop} {A B : HSt} (hA : zS A) (hB : zS B) (h : post (B, B)) : wX0_becomeAs post (A, B) := by
  unfold wX0_becomeAs
  have q : (¬ (0 : Int32) < 0 ∧ ¬ (0 : Int32) < 0 ∧ ¬ (8 : Int32) < 0 ∧ (Int32.toNatClampNeg 0) + (Int32.toNatClampNeg 8) ≤ 8 ∧ (Int32.toNatClampNeg 0) + (Int32.toNatClampNeg 8) ≤ 8) := by decide
  simp only [forall_eq]
  refine ⟨q, q, q, q, q, q, ?_⟩
  obtain ⟨a1, a2, a3, a4, a5, a6⟩ := hA
  obtain ⟨b1, b2, b3, b4, b5, b6⟩ := hB
  have e : ∀ (x1 x2 x3 x4 x5 x6 : Nat → Int32), x1 = h_dust B → x2 = h_memories B → x3 = h_kinds B → x4 = h_held B → x5 = h_grimes B → x6 = h_rounds B → ((x1, x2, x3, x4, x5, x6, h_day B, h_fall B, h_dusters B) : HSt) = B := by
    intro x1 x2 x3 x4 x5 x6 h1 h2 h3 h4 h5 h6
    subst h1; subst h2; subst h3; subst h4; subst h5; subst h6
    rfl
  have e2 := e _ _ _ _ _ _ (cpy8 b1 a1) (cpy8 b2 a2) (cpy8 b3 a3) (cpy8 b4 a4) (cpy8 b5 a5) (cpy8 b6 a6)
  have e4 : ∀ z : HSt × HSt, z = (B, B) → post z := fun z hz => hz ▸ h
  refine e4 _ (Prod.ext ?_ rfl)
  rw [cl0, cl8]
  exact e2
/-! the reference keeps and brings back -/
theorem rowH_same {r q : Nat → Int32} (h : ∀ j, j < 51 → r j = q j) : rowH r = rowH q := by
  refine rowH_ext (fun i => ?_) (fun i => ?_) (fun i => ?_) (fun i => ?_) (fun i => ?_) (fun i => ?_) (h 0 (by decide)) (h 1 (by decide)) (h 2 (by decide))
  · show _ = (if i < 8 then q (3 + 2 * i) else 0)
    by_cases c : i < 8
    · rw [if_pos c, if_pos c]; exact h _ (by omega)
    · rw [if_neg c, if_neg c]
  · show _ = (if i < 8 then q (4 + 2 * i) else 0)
    by_cases c : i < 8
    · rw [if_pos c, if_pos c]; exact h _ (by omega)
    · rw [if_neg c, if_neg c]
  · show _ = (if i < 8 then q (19 + 4 * i) else 0)
    by_cases c : i < 8
    · rw [if_pos c, if_pos c]; exact h _ (by omega)
    · rw [if_neg c, if_neg c]
  · show _ = (if i < 8 then q (20 + 4 * i) else 0)
    by_cases c : i < 8
    · rw [if_pos c, if_pos c]; exact h _ (by omega)
    · rw [if_neg c, if_neg c]
  · show _ = (if i < 8 then q (21 + 4 * i) else 0)
    by_cases c : i < 8
    · rw [if_pos c, if_pos c]; exact h _ (by omega)
    · rw [if_neg c, if_neg c]
  · show _ = (if i < 8 then q (22 + 4 * i) else 0)
    by_cases c : i < 8
    · rw [if_pos c, if_pos c]; exact h _ (by omega)
    · rw [if_neg c, if_neg c]
theorem s5_save_tried_l {post : MSt → Prop} {M : MSt} (h : ∀ t, rowH t = rowH (m_row M) → post (m_tried_s M t)) : ∀ (c i : Nat) (t : Nat → Int32), i + c = 51 → (∀ j, j < i → t j = m_row M j) → wX5_moveAll_tried_2 post (c + 1) (m_tried_s M t) 1 (nI i) := by
  intro c
  induction c with
  | zero =>
    intro i t e ht
    rw [wX5_moveAll_tried_2]
    exact br_t (nI_le (a := 51) (by omega) (by omega)) (h t (rowH_same (fun j hj => ht j (by omega))))
  | succ c ih =>
    intro i t e ht
    have hi : i < 51 := by omega
    rw [wX5_moveAll_tried_2]
    refine br_f (nI_ge (b := 51) (by omega) (by omega)) (br_f (by decide) ⟨vp_in_nI hi (by decide), vp_in_nI hi (by decide), fun S3 e3 => ?_⟩)
    rw [e3, ← nI_succ, nI_clamp (by omega)]
    refine ih (i + 1) (upd t i (m_row M i)) (by omega) (fun j hj => ?_)
    by_cases c0 : j = i
    · rw [c0, upd_eq]
    · rw [upd_ne c0]
      exact ht j (by omega)
theorem s5_save_tried {post : MSt → Prop} {M : MSt} (h : ∀ t, rowH t = rowH (m_row M) → post (m_tried_s M t)) : wX5_moveAll_tried post M 1 := ⟨52, s5_save_tried_l h 51 0 (m_tried M) rfl (fun j hj => absurd hj (Nat.not_lt_zero j))⟩
theorem s5_back_tried_l {post : MSt → Prop} {M : MSt} (h : ∀ t, rowH t = rowH (m_tried M) → post (m_row_s M t)) : ∀ (c i : Nat) (t : Nat → Int32), i + c = 51 → (∀ j, j < i → t j = m_tried M j) → wX5_moveAll_tried_2 post (c + 1) (m_row_s M t) 0 (nI i) := by
  intro c
  induction c with
  | zero =>
    intro i t e ht
    rw [wX5_moveAll_tried_2]
    exact br_t (nI_le (a := 51) (by omega) (by omega)) (h t (rowH_same (fun j hj => ht j (by omega))))
  | succ c ih =>
    intro i t e ht
    have hi : i < 51 := by omega
    rw [wX5_moveAll_tried_2]
    refine br_f (nI_ge (b := 51) (by omega) (by omega)) (br_t rfl ⟨vp_in_nI hi (by decide), vp_in_nI hi (by decide), fun S3 e3 => ?_⟩)
    rw [e3, ← nI_succ, nI_clamp (by omega)]
    refine ih (i + 1) (upd t i (m_tried M i)) (by omega) (fun j hj => ?_)
    by_cases c0 : j = i
    · rw [c0, upd_eq]
    · rw [upd_ne c0]
      exact ht j (by omega)
theorem s5_back_tried {post : MSt → Prop} {M : MSt} (h : ∀ t, rowH t = rowH (m_tried M) → post (m_row_s M t)) : wX5_moveAll_tried post M 0 := ⟨52, s5_back_tried_l h 51 0 (m_row M) rfl (fun j hj => absurd hj (Nat.not_lt_zero j))⟩
theorem s5_save_before1_l {post : MSt → Prop} {M : MSt} (h : ∀ t, rowH t = rowH (m_row M) → post (m_before1_s M t)) : ∀ (c i : Nat) (t : Nat → Int32), i + c = 51 → (∀ j, j < i → t j = m_row M j) → wX5_moveAll_before1_2 post (c + 1) (m_before1_s M t) 1 (nI i) := by
  intro c
  induction c with
  | zero =>
    intro i t e ht
    rw [wX5_moveAll_before1_2]
    exact br_t (nI_le (a := 51) (by omega) (by omega)) (h t (rowH_same (fun j hj => ht j (by omega))))
  | succ c ih =>
    intro i t e ht
    have hi : i < 51 := by omega
    rw [wX5_moveAll_before1_2]
    refine br_f (nI_ge (b := 51) (by omega) (by omega)) (br_f (by decide) ⟨vp_in_nI hi (by decide), vp_in_nI hi (by decide), fun S3 e3 => ?_⟩)
    rw [e3, ← nI_succ, nI_clamp (by omega)]
    refine ih (i + 1) (upd t i (m_row M i)) (by omega) (fun j hj => ?_)
    by_cases c0 : j = i
    · rw [c0, upd_eq]
    · rw [upd_ne c0]
      exact ht j (by omega)
theorem s5_save_before1 {post : MSt → Prop} {M : MSt} (h : ∀ t, rowH t = rowH (m_row M) → post (m_before1_s M t)) : wX5_moveAll_before1 post M 1 := ⟨52, s5_save_before1_l h 51 0 (m_before1 M) rfl (fun j hj => absurd hj (Nat.not_lt_zero j))⟩
theorem s5_back_before1_l {post : MSt → Prop} {M : MSt} (h : ∀ t, rowH t = rowH (m_before1 M) → post (m_row_s M t)) : ∀ (c i : Nat) (t : Nat → Int32), i + c = 51 → (∀ j, j < i → t j = m_before1 M j) → wX5_moveAll_before1_2 post (c + 1) (m_row_s M t) 0 (nI i) := by
  intro c
  induction c with
  | zero =>
    intro i t e ht
    rw [wX5_moveAll_before1_2]
    exact br_t (nI_le (a := 51) (by omega) (by omega)) (h t (rowH_same (fun j hj => ht j (by omega))))
  | succ c ih =>
    intro i t e ht
    have hi : i < 51 := by omega
    rw [wX5_moveAll_before1_2]
    refine br_f (nI_ge (b := 51) (by omega) (by omega)) (br_t rfl ⟨vp_in_nI hi (by decide), vp_in_nI hi (by decide), fun S3 e3 => ?_⟩)
    rw [e3, ← nI_succ, nI_clamp (by omega)]
    refine ih (i + 1) (upd t i (m_before1 M i)) (by omega) (fun j hj => ?_)
    by_cases c0 : j = i
    · rw [c0, upd_eq]
    · rw [upd_ne c0]
      exact ht j (by omega)
theorem s5_back_before1 {post : MSt → Prop} {M : MSt} (h : ∀ t, rowH t = rowH (m_before1 M) → post (m_row_s M t)) : wX5_moveAll_before1 post M 0 := ⟨52, s5_back_before1_l h 51 0 (m_row M) rfl (fun j hj => absurd hj (Nat.not_lt_zero j))⟩
theorem s5_save_before_l {post : MSt → Prop} {M : MSt} (h : ∀ t, rowH t = rowH (m_row M) → post (m_before_s M t)) : ∀ (c i : Nat) (t : Nat → Int32), i + c = 51 → (∀ j, j < i → t j = m_row M j) → wX5_moveAll_before_2 post (c + 1) (m_before_s M t) 1 (nI i) := by
  intro c
  induction c with
  | zero =>
    intro i t e ht
    rw [wX5_moveAll_before_2]
    exact br_t (nI_le (a := 51) (by omega) (by omega)) (h t (rowH_same (fun j hj => ht j (by omega))))
  | succ c ih =>
    intro i t e ht
    have hi : i < 51 := by omega
    rw [wX5_moveAll_before_2]
    refine br_f (nI_ge (b := 51) (by omega) (by omega)) (br_f (by decide) ⟨vp_in_nI hi (by decide), vp_in_nI hi (by decide), fun S3 e3 => ?_⟩)
    rw [e3, ← nI_succ, nI_clamp (by omega)]
    refine ih (i + 1) (upd t i (m_row M i)) (by omega) (fun j hj => ?_)
    by_cases c0 : j = i
    · rw [c0, upd_eq]
    · rw [upd_ne c0]
      exact ht j (by omega)
theorem s5_save_before {post : MSt → Prop} {M : MSt} (h : ∀ t, rowH t = rowH (m_row M) → post (m_before_s M t)) : wX5_moveAll_before post M 1 := ⟨52, s5_save_before_l h 51 0 (m_before M) rfl (fun j hj => absurd hj (Nat.not_lt_zero j))⟩
theorem s5_back_before_l {post : MSt → Prop} {M : MSt} (h : ∀ t, rowH t = rowH (m_before M) → post (m_row_s M t)) : ∀ (c i : Nat) (t : Nat → Int32), i + c = 51 → (∀ j, j < i → t j = m_before M j) → wX5_moveAll_before_2 post (c + 1) (m_row_s M t) 0 (nI i) := by
  intro c
  induction c with
  | zero =>
    intro i t e ht
    rw [wX5_moveAll_before_2]
    exact br_t (nI_le (a := 51) (by omega) (by omega)) (h t (rowH_same (fun j hj => ht j (by omega))))
  | succ c ih =>
    intro i t e ht
    have hi : i < 51 := by omega
    rw [wX5_moveAll_before_2]
    refine br_f (nI_ge (b := 51) (by omega) (by omega)) (br_t rfl ⟨vp_in_nI hi (by decide), vp_in_nI hi (by decide), fun S3 e3 => ?_⟩)
    rw [e3, ← nI_succ, nI_clamp (by omega)]
    refine ih (i + 1) (upd t i (m_before M i)) (by omega) (fun j hj => ?_)
    by_cases c0 : j = i
    · rw [c0, upd_eq]
    · rw [upd_ne c0]
      exact ht j (by omega)
theorem s5_back_before {post : MSt → Prop} {M : MSt} (h : ∀ t, rowH t = rowH (m_before M) → post (m_row_s M t)) : wX5_moveAll_before post M 0 := ⟨52, s5_back_before_l h 51 0 (m_row M) rfl (fun j hj => absurd hj (Nat.not_lt_zero j))⟩
theorem s5_save_image_l {post : MSt → Prop} {M : MSt} (h : ∀ t, rowH t = rowH (m_row M) → post (m_image_s M t)) : ∀ (c i : Nat) (t : Nat → Int32), i + c = 51 → (∀ j, j < i → t j = m_row M j) → wX5_moveAll_image_2 post (c + 1) (m_image_s M t) 1 (nI i) := by
  intro c
  induction c with
  | zero =>
    intro i t e ht
    rw [wX5_moveAll_image_2]
    exact br_t (nI_le (a := 51) (by omega) (by omega)) (h t (rowH_same (fun j hj => ht j (by omega))))
  | succ c ih =>
    intro i t e ht
    have hi : i < 51 := by omega
    rw [wX5_moveAll_image_2]
    refine br_f (nI_ge (b := 51) (by omega) (by omega)) (br_f (by decide) ⟨vp_in_nI hi (by decide), vp_in_nI hi (by decide), fun S3 e3 => ?_⟩)
    rw [e3, ← nI_succ, nI_clamp (by omega)]
    refine ih (i + 1) (upd t i (m_row M i)) (by omega) (fun j hj => ?_)
    by_cases c0 : j = i
    · rw [c0, upd_eq]
    · rw [upd_ne c0]
      exact ht j (by omega)
theorem s5_save_image {post : MSt → Prop} {M : MSt} (h : ∀ t, rowH t = rowH (m_row M) → post (m_image_s M t)) : wX5_moveAll_image post M 1 := ⟨52, s5_save_image_l h 51 0 (m_image M) rfl (fun j hj => absurd hj (Nat.not_lt_zero j))⟩
theorem s5_back_image_l {post : MSt → Prop} {M : MSt} (h : ∀ t, rowH t = rowH (m_image M) → post (m_row_s M t)) : ∀ (c i : Nat) (t : Nat → Int32), i + c = 51 → (∀ j, j < i → t j = m_image M j) → wX5_moveAll_image_2 post (c + 1) (m_row_s M t) 0 (nI i) := by
  intro c
  induction c with
  | zero =>
    intro i t e ht
    rw [wX5_moveAll_image_2]
    exact br_t (nI_le (a := 51) (by omega) (by omega)) (h t (rowH_same (fun j hj => ht j (by omega))))
  | succ c ih =>
    intro i t e ht
    have hi : i < 51 := by omega
    rw [wX5_moveAll_image_2]
    refine br_f (nI_ge (b := 51) (by omega) (by omega)) (br_t rfl ⟨vp_in_nI hi (by decide), vp_in_nI hi (by decide), fun S3 e3 => ?_⟩)
    rw [e3, ← nI_succ, nI_clamp (by omega)]
    refine ih (i + 1) (upd t i (m_image M i)) (by omega) (fun j hj => ?_)
    by_cases c0 : j = i
    · rw [c0, upd_eq]
    · rw [upd_ne c0]
      exact ht j (by omega)
theorem s5_back_image {post : MSt → Prop} {M : MSt} (h : ∀ t, rowH t = rowH (m_image M) → post (m_row_s M t)) : wX5_moveAll_image post M 0 := ⟨52, s5_back_image_l h 51 0 (m_row M) rfl (fun j hj => absurd hj (Nat.not_lt_zero j))⟩
def dsum (S : HSt) : Int32 := itN (fun i a => a + h_dust S i) 8 0 0
theorem s0_dsum_l {post : Int32 → Prop} {S : HSt} : ∀ (c i : Nat) (a : Int32), i + c = 8 → post (itN (fun i a => a + h_dust S i) c i a) → wX0_dustOfAll_4 post S (c + 1) a (nI i) := by
  intro c
  induction c with
  | zero =>
    intro i a e h
    rw [wX0_dustOfAll_4]
    exact br_t (nI_le (a := 8) (by omega) (by omega)) h
  | succ c ih =>
    intro i a e h
    have hi : i < 8 := by omega
    rw [wX0_dustOfAll_4]
    simp only [c8 hi]
    refine br_f (nI_ge (b := 8) (by omega) (by omega)) ⟨v8 hi, fun y ey => ?_⟩
    rw [ey, ← nI_succ]
    exact ih (i + 1) _ (by omega) h
theorem s0_dsum {post : Int32 → Prop} {S : HSt} (h : post (dsum S)) : wX0_dustOfAll post S := ⟨9, s0_dsum_l 8 0 _ rfl h⟩
theorem s5_dsum_l {post : Int32 → Prop} {M : MSt} {D : Nat} (ok : okS D (rowH (m_row M))) : ∀ (c i : Nat) (a : Int32), i + c = 8 → post (itN (fun i a => a + h_dust (rowH (m_row M)) i) c i a) → wX5_dustOfAll_4 post M (c + 1) a (nI i) := by
  intro c
  induction c with
  | zero =>
    intro i a e h
    rw [wX5_dustOfAll_4]
    exact br_t (nI_le (a := 8) (by omega) (by omega)) h
  | succ c ih =>
    intro i a e h
    have hi : i < 8 := by omega
    rw [wX5_dustOfAll_4]
    refine br_f (nI_ge (b := 8) (by omega) (by omega)) (s5_there_dust hi (fun y ey => ?_))
    rw [ey, ← nI_succ]
    exact ih (i + 1) _ (by omega) h
theorem s5_dsum {post : Int32 → Prop} {D : Nat} {M : MSt} (ok : okS D (rowH (m_row M))) (h : post (dsum (rowH (m_row M)))) : wX5_dustOfAll post M := ⟨9, s5_dsum_l ok 8 0 _ rfl h⟩
def msum (S : HSt) : Int32 := itN (fun i a => a + popc (h_memories S i)) 8 0 0
theorem s0_msum_l {post : Int32 → Prop} {S : HSt} : ∀ (c i : Nat) (a : Int32), i + c = 8 → post (itN (fun i a => a + popc (h_memories S i)) c i a) → wX0_memoriesCounted_4 post S (c + 1) a (nI i) := by
  intro c
  induction c with
  | zero =>
    intro i a e h
    rw [wX0_memoriesCounted_4]
    exact br_t (nI_le (a := 8) (by omega) (by omega)) h
  | succ c ih =>
    intro i a e h
    have hi : i < 8 := by omega
    rw [wX0_memoriesCounted_4]
    simp only [c8 hi]
    refine br_f (nI_ge (b := 8) (by omega) (by omega)) ⟨v8 hi, s6_bitCount (fun y ey => ?_)⟩
    rw [ey, ← nI_succ]
    exact ih (i + 1) _ (by omega) h
theorem s0_msum {post : Int32 → Prop} {S : HSt} (h : post (msum S)) : wX0_memoriesCounted post S := ⟨9, s0_msum_l 8 0 _ rfl h⟩
theorem s5_msum_l {post : Int32 → Prop} {M : MSt} {D : Nat} (ok : okS D (rowH (m_row M))) : ∀ (c i : Nat) (a : Int32), i + c = 8 → post (itN (fun i a => a + popc (h_memories (rowH (m_row M)) i)) c i a) → wX5_memoriesOfAll_4 post M (c + 1) a (nI i) := by
  intro c
  induction c with
  | zero =>
    intro i a e h
    rw [wX5_memoriesOfAll_4]
    exact br_t (nI_le (a := 8) (by omega) (by omega)) h
  | succ c ih =>
    intro i a e h
    have hi : i < 8 := by omega
    rw [wX5_memoriesOfAll_4]
    refine br_f (nI_ge (b := 8) (by omega) (by omega)) (s5_there_memories hi (s5_bits (ok.mem i) (fun y ey => ?_)))
    rw [ey, ← nI_succ]
    exact ih (i + 1) _ (by omega) h
theorem s5_msum {post : Int32 → Prop} {D : Nat} {M : MSt} (ok : okS D (rowH (m_row M))) (h : post (msum (rowH (m_row M)))) : wX5_memoriesOfAll post M := ⟨9, s5_msum_l ok 8 0 _ rfl h⟩
def mall (S : HSt) : Int32 := itN (fun i a => a &&& h_memories S i) 8 0 1023
theorem s0_mall_l {post : Int32 → Prop} {S : HSt} : ∀ (c i : Nat) (a : Int32), i + c = 8 → post (itN (fun i a => a &&& h_memories S i) c i a) → wX0_memoriesEverywhere_6 post S (c + 1) a (nI i) := by
  intro c
  induction c with
  | zero =>
    intro i a e h
    rw [wX0_memoriesEverywhere_6]
    exact br_t (nI_le (a := 8) (by omega) (by omega)) h
  | succ c ih =>
    intro i a e h
    have hi : i < 8 := by omega
    rw [wX0_memoriesEverywhere_6]
    simp only [c8 hi]
    refine br_f (nI_ge (b := 8) (by omega) (by omega)) ⟨v8 hi, fun y ey => ?_⟩
    rw [ey, ← nI_succ]
    exact ih (i + 1) _ (by omega) h
theorem s0_mall {post : Int32 → Prop} {S : HSt} (h : post (mall S)) : wX0_memoriesEverywhere post S := ⟨9, s0_mall_l 8 0 _ rfl h⟩
theorem s5_mall_l {post : Int32 → Prop} {M : MSt} {D : Nat} (ok : okS D (rowH (m_row M))) : ∀ (c i : Nat) (a : Int32), i + c = 8 → post (itN (fun i a => a &&& h_memories (rowH (m_row M)) i) c i a) → wX5_common_6 post M (c + 1) a (nI i) := by
  intro c
  induction c with
  | zero =>
    intro i a e h
    rw [wX5_common_6]
    exact br_t (nI_le (a := 8) (by omega) (by omega)) h
  | succ c ih =>
    intro i a e h
    have hi : i < 8 := by omega
    rw [wX5_common_6]
    refine br_f (nI_ge (b := 8) (by omega) (by omega)) (s5_there_memories hi (fun y ey => ?_))
    rw [ey, ← nI_succ]
    exact ih (i + 1) _ (by omega) h
theorem s5_mall {post : Int32 → Prop} {D : Nat} {M : MSt} (ok : okS D (rowH (m_row M))) (h : post (mall (rowH (m_row M)))) : wX5_common post M := ⟨9, s5_mall_l ok 8 0 _ rfl h⟩
def many (S : HSt) : Int32 := itN (fun i a => a ||| h_memories S i) 8 0 0
theorem s0_many_l {post : Int32 → Prop} {S : HSt} : ∀ (c i : Nat) (a : Int32), i + c = 8 → post (itN (fun i a => a ||| h_memories S i) c i a) → wX0_memoriesAnywhere_4 post S (c + 1) a (nI i) := by
  intro c
  induction c with
  | zero =>
    intro i a e h
    rw [wX0_memoriesAnywhere_4]
    exact br_t (nI_le (a := 8) (by omega) (by omega)) h
  | succ c ih =>
    intro i a e h
    have hi : i < 8 := by omega
    rw [wX0_memoriesAnywhere_4]
    simp only [c8 hi]
    refine br_f (nI_ge (b := 8) (by omega) (by omega)) ⟨v8 hi, fun y ey => ?_⟩
    rw [ey, ← nI_succ]
    exact ih (i + 1) _ (by omega) h
theorem s0_many {post : Int32 → Prop} {S : HSt} (h : post (many S)) : wX0_memoriesAnywhere post S := ⟨9, s0_many_l 8 0 _ rfl h⟩
theorem s5_many_l {post : Int32 → Prop} {M : MSt} {D : Nat} (ok : okS D (rowH (m_row M))) : ∀ (c i : Nat) (a : Int32), i + c = 8 → post (itN (fun i a => a ||| h_memories (rowH (m_row M)) i) c i a) → wX5_anywhere_4 post M (c + 1) a (nI i) := by
  intro c
  induction c with
  | zero =>
    intro i a e h
    rw [wX5_anywhere_4]
    exact br_t (nI_le (a := 8) (by omega) (by omega)) h
  | succ c ih =>
    intro i a e h
    have hi : i < 8 := by omega
    rw [wX5_anywhere_4]
    refine br_f (nI_ge (b := 8) (by omega) (by omega)) (s5_there_memories hi (fun y ey => ?_))
    rw [ey, ← nI_succ]
    exact ih (i + 1) _ (by omega) h
theorem s5_many {post : Int32 → Prop} {D : Nat} {M : MSt} (ok : okS D (rowH (m_row M))) (h : post (many (rowH (m_row M)))) : wX5_anywhere post M := ⟨9, s5_many_l ok 8 0 _ rfl h⟩
def mheld (S : HSt) : Int32 := itN (fun i a => a ||| h_held S i) (h_dusters S).toNatClampNeg 0 0
theorem s0_mheld_l {post : Int32 → Prop} {S : HSt} {k : Nat} (hk : k ≤ 8) (ek : h_dusters S = nI k) : ∀ (c i : Nat) (a : Int32), i + c = k → post (itN (fun i a => a ||| h_held S i) c i a) → wX0_memoriesHeld_4 post S (c + 1) a (nI i) := by
  intro c
  induction c with
  | zero =>
    intro i a e h
    rw [wX0_memoriesHeld_4, ek]
    exact br_t (nI_le (a := k) (by omega) (by omega)) h
  | succ c ih =>
    intro i a e h
    have hi : i < 8 := by omega
    rw [wX0_memoriesHeld_4, ek]
    simp only [c8 hi]
    refine br_f (nI_ge (b := k) (by omega) (by omega)) ⟨v8 hi, fun y ey => ?_⟩
    rw [ey, ← nI_succ]
    exact ih (i + 1) _ (by omega) h
theorem s0_mheld {post : Int32 → Prop} {D : Nat} {S : HSt} (ok : okS D S) (h : post (mheld S)) : wX0_memoriesHeld post S := by
  obtain ⟨k, hk, ek⟩ := ok.many
  unfold mheld at h
  rw [ek, nI_clamp (by omega)] at h
  exact ⟨k + 1, s0_mheld_l hk ek k 0 _ (by omega) h⟩
theorem s5_mheld_l {post : Int32 → Prop} {M : MSt} {k : Nat} {D : Nat} (ok : okS D (rowH (m_row M))) (hk : k ≤ 8) (ek : h_dusters (rowH (m_row M)) = nI k) : ∀ (c i : Nat) (a : Int32), i + c = k → post (itN (fun i a => a ||| h_held (rowH (m_row M)) i) c i a) → wX5_heldByAny_4 post M (c + 1) a (nI i) := by
  intro c
  induction c with
  | zero =>
    intro i a e h
    rw [wX5_heldByAny_4, cl2, show m_row M 2 = nI k from ek]
    exact ⟨vp2, br_t (nI_le (a := k) (by omega) (by omega)) h⟩
  | succ c ih =>
    intro i a e h
    have hi : i < 8 := by omega
    rw [wX5_heldByAny_4, cl2, show m_row M 2 = nI k from ek]
    refine ⟨vp2, br_f (nI_ge (b := k) (by omega) (by omega)) (s5_its_held hi (fun y ey => ?_))⟩
    rw [ey, ← nI_succ]
    exact ih (i + 1) _ (by omega) h
theorem s5_mheld {post : Int32 → Prop} {D : Nat} {M : MSt} (ok : okS D (rowH (m_row M))) (h : post (mheld (rowH (m_row M)))) : wX5_heldByAny post M := by
  obtain ⟨k, hk, ek⟩ := ok.many
  unfold mheld at h
  rw [ek, nI_clamp (by omega)] at h
  exact ⟨k + 1, s5_mheld_l ok hk ek k 0 _ (by omega) h⟩
def gsum (S : HSt) : Int32 := itN (fun i a => a + h_grimes S i) (h_dusters S).toNatClampNeg 0 0
theorem s0_gsum_l {post : Int32 → Prop} {S : HSt} {k : Nat} (hk : k ≤ 8) (ek : h_dusters S = nI k) : ∀ (c i : Nat) (a : Int32), i + c = k → post (itN (fun i a => a + h_grimes S i) c i a) → wX0_grimeOfAll_4 post S (c + 1) a (nI i) := by
  intro c
  induction c with
  | zero =>
    intro i a e h
    rw [wX0_grimeOfAll_4, ek]
    exact br_t (nI_le (a := k) (by omega) (by omega)) h
  | succ c ih =>
    intro i a e h
    have hi : i < 8 := by omega
    rw [wX0_grimeOfAll_4, ek]
    simp only [c8 hi]
    refine br_f (nI_ge (b := k) (by omega) (by omega)) ⟨v8 hi, fun y ey => ?_⟩
    rw [ey, ← nI_succ]
    exact ih (i + 1) _ (by omega) h
theorem s0_gsum {post : Int32 → Prop} {D : Nat} {S : HSt} (ok : okS D S) (h : post (gsum S)) : wX0_grimeOfAll post S := by
  obtain ⟨k, hk, ek⟩ := ok.many
  unfold gsum at h
  rw [ek, nI_clamp (by omega)] at h
  exact ⟨k + 1, s0_gsum_l hk ek k 0 _ (by omega) h⟩
theorem s5_gsum_l {post : Int32 → Prop} {M : MSt} {k : Nat} {D : Nat} (ok : okS D (rowH (m_row M))) (hk : k ≤ 8) (ek : h_dusters (rowH (m_row M)) = nI k) : ∀ (c i : Nat) (a : Int32), i + c = k → post (itN (fun i a => a + h_grimes (rowH (m_row M)) i) c i a) → wX5_grimeOfAll_4 post M (c + 1) a (nI i) := by
  intro c
  induction c with
  | zero =>
    intro i a e h
    rw [wX5_grimeOfAll_4, cl2, show m_row M 2 = nI k from ek]
    exact ⟨vp2, br_t (nI_le (a := k) (by omega) (by omega)) h⟩
  | succ c ih =>
    intro i a e h
    have hi : i < 8 := by omega
    rw [wX5_grimeOfAll_4, cl2, show m_row M 2 = nI k from ek]
    refine ⟨vp2, br_f (nI_ge (b := k) (by omega) (by omega)) (s5_its_grimes hi (fun y ey => ?_))⟩
    rw [ey, ← nI_succ]
    exact ih (i + 1) _ (by omega) h
theorem s5_gsum {post : Int32 → Prop} {D : Nat} {M : MSt} (ok : okS D (rowH (m_row M))) (h : post (gsum (rowH (m_row M)))) : wX5_grimeOfAll post M := by
  obtain ⟨k, hk, ek⟩ := ok.many
  unfold gsum at h
  rw [ek, nI_clamp (by omega)] at h
  exact ⟨k + 1, s5_gsum_l ok hk ek k 0 _ (by omega) h⟩
