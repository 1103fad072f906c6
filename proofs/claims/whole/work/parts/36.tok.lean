/-! tokens: what stands on the tape -/
def run (p : Int32 → Bool) (f : Nat → Int32) : Nat → Nat → Nat
  | 0, i => i
  | c + 1, i => if p (f i) then run p f c (i + 1) else i
def bB (b : Int32) : Bool := decide (b = 32)
def bL (b : Int32) : Bool := decide (97 ≤ b) && decide (b ≤ 122)
def bD (b : Int32) : Bool := decide (48 ≤ b) && decide (b ≤ 57)
set_option maxHeartbeats 400000 in
theorem run_ge {p : Int32 → Bool} {f : Nat → Int32} : ∀ (c i : Nat), i ≤ run p f c i ∧ run p f c i ≤ i + c := by
  intro c
  induction c with
  | zero => intro i; exact ⟨Nat.le_refl _, Nat.le_refl _⟩
  | succ c ih =>
    intro i
    rw [run]
    have := ih (i + 1)
    split <;> omega
set_option maxHeartbeats 400000 in
theorem run_all {p : Int32 → Bool} {f : Nat → Int32} : ∀ (c i j : Nat), i ≤ j → j < run p f c i → p (f j) = true := by
  intro c
  induction c with
  | zero => intro i j h1 h2; exact absurd h2 (Nat.not_lt.mpr h1)
  | succ c ih =>
    intro i j h1 h2
    rw [run] at h2
    by_cases q : p (f i) = true
    · rw [if_pos q] at h2
      by_cases e : j = i
      · rw [e]; exact q
      · exact ih (i + 1) j (by omega) h2
    · rw [if_neg q] at h2
      omega
def nX (f : Nat → Int32) (s : Nat) : Nat → Nat
  | 0 => 0
  | j + 1 => if nX f s j * 10 + (f (s + j)).toNatClampNeg - 48 < 1000 then nX f s j * 10 + (f (s + j)).toNatClampNeg - 48 else 1000
set_option maxHeartbeats 400000 in
theorem nX_le (f : Nat → Int32) (s : Nat) : ∀ j, nX f s j ≤ 1000 := by
  intro j
  cases j with
  | zero => exact Nat.zero_le _
  | succ j =>
    rw [nX]
    split <;> omega
/-! word k stands at s .. e -/
def mtP (f : Nat → Int32) (s e k : Nat) : Prop := s + zz_len.getD k 0 = e ∧ ∀ j, j < zz_len.getD k 0 → f (s + j) = (zz_byt.getD k []).getD j 0
def mtB (f : Nat → Int32) (s e k : Nat) : Bool := decide (s + zz_len.getD k 0 = e) && (List.range (zz_len.getD k 0)).all (fun j => decide (f (s + j) = (zz_byt.getD k []).getD j 0))
set_option maxHeartbeats 400000 in
theorem mtB_iff {f : Nat → Int32} {s e k : Nat} : mtB f s e k = true ↔ mtP f s e k := by
  unfold mtB mtP
  simp [List.all_eq_true]
def wIx (f : Nat → Int32) (s e : Nat) : Nat → Nat → Nat
  | 0, k => k
  | c + 1, k => if mtB f s e k then k else wIx f s e c (k + 1)
def tS (f : Nat → Int32) (n p : Nat) : Nat := run bB f (n - p) p
def tK (f : Nat → Int32) (n p : Nat) : Nat := if n ≤ tS f n p then 0 else if bL (f (tS f n p)) then 1 else if bD (f (tS f n p)) then 2 else if f (tS f n p) = 59 then 3 else 4
def tE (f : Nat → Int32) (n p : Nat) : Nat := if n ≤ tS f n p then tS f n p else if bL (f (tS f n p)) then run bL f (n - tS f n p) (tS f n p) else if bD (f (tS f n p)) then run bD f (n - tS f n p) (tS f n p) else tS f n p + 1
def tV (f : Nat → Int32) (n p : Nat) : Nat := if tK f n p = 1 then wIx f (tS f n p) (tE f n p) 13 0 else nX f (tS f n p) (tE f n p - tS f n p)
set_option maxHeartbeats 400000 in
theorem tS_le {f : Nat → Int32} {n p : Nat} (hp : p ≤ n) : p ≤ tS f n p ∧ tS f n p ≤ n := by
  have := run_ge (p := bB) (f := f) (n - p) p
  unfold tS
  omega
set_option maxHeartbeats 400000 in
theorem tE_le {f : Nat → Int32} {n p : Nat} (hp : p ≤ n) : tS f n p ≤ tE f n p ∧ tE f n p ≤ n := by
  have h1 := tS_le (f := f) hp
  have h2 := run_ge (p := bL) (f := f) (n - tS f n p) (tS f n p)
  have h3 := run_ge (p := bD) (f := f) (n - tS f n p) (tS f n p)
  unfold tE
  split
  · omega
  · split
    · omega
    · split <;> omega
set_option maxHeartbeats 400000 in
theorem run_lt {p : Int32 → Bool} {f : Nat → Int32} {c i : Nat} (hc : 0 < c) (h : p (f i) = true) : i < run p f c i := by
  obtain ⟨d, rfl⟩ : ∃ d, c = d + 1 := ⟨c - 1, by omega⟩
  rw [run, if_pos h]
  have := run_ge (p := p) (f := f) d (i + 1)
  omega
set_option maxHeartbeats 400000 in
theorem tE_lt {f : Nat → Int32} {n p : Nat} (hp : p ≤ n) (hk : tK f n p ≠ 0) : tS f n p < tE f n p := by
  have h1 := tS_le (f := f) hp
  unfold tK at hk
  unfold tE
  by_cases c : n ≤ tS f n p
  · rw [if_pos c] at hk
    exact absurd rfl hk
  · rw [if_neg c]
    by_cases c2 : bL (f (tS f n p)) = true
    · rw [if_pos c2]
      exact run_lt (by omega) c2
    · rw [if_neg c2]
      by_cases c3 : bD (f (tS f n p)) = true
      · rw [if_pos c3]
        exact run_lt (by omega) c3
      · rw [if_neg c3]
        omega
/-! the tape looks at the token behind p -/
def TA (f : Nat → Int32) (n : Nat) (T : TSt) (p : Nat) : Prop := t_bytes T = f ∧ t_length T = nI n ∧ t_start T = nI (tS f n p) ∧ t_end T = nI (tE f n p) ∧ t_token T = nI (tK f n p) ∧ ((tK f n p = 1 ∨ tK f n p = 2) → t_value T = nI (tV f n p))
section TokX
variable {f : Nat → Int32} {n : Nat}
set_option maxHeartbeats 400000 in
theorem v120 {i : Nat} (h : i < 120) : vp_in (nI i) 120 := vp_in_nI h (by decide)
set_option maxHeartbeats 400000 in
theorem s3_isLetter {post : Int32 → Prop} {b : Int32} (h : post (if bL b then 1 else 0)) : wX3_isLetter post b := by
  refine br_c (fun c => ?_) (fun c => br_c (fun c2 => ?_) (fun c2 => ?_))
  · rw [if_neg (by simp [bL, Int32.not_le.mpr c])] at h; exact h
  · rw [if_neg (by simp [bL, Int32.not_le.mpr c2])] at h; exact h
  · rw [if_pos (by simp [bL, Int32.not_lt.mp c, Int32.not_lt.mp c2])] at h; exact h
set_option maxHeartbeats 400000 in
theorem s3_isDigit {post : Int32 → Prop} {b : Int32} (h : post (if bD b then 1 else 0)) : wX3_isDigit post b := by
  refine br_c (fun c => ?_) (fun c => br_c (fun c2 => ?_) (fun c2 => ?_))
  · rw [if_neg (by simp [bD, Int32.not_le.mpr c])] at h; exact h
  · rw [if_neg (by simp [bD, Int32.not_le.mpr c2])] at h; exact h
  · rw [if_pos (by simp [bD, Int32.not_lt.mp c, Int32.not_lt.mp c2])] at h; exact h
set_option maxHeartbeats 400000 in
theorem zz_len_lt : ∀ k, k < 14 → zz_len.getD k 0 ≤ 7 := by decide
set_option maxHeartbeats 400000 in
theorem s3_word_68 {post : TSt → Prop} {k49 : TSt → Prop} {T : TSt} {s e k : Nat} (hk : k < 14) (hse : s ≤ e) (he : e ≤ 120) (hb : t_bytes T = f) (hs : t_start T = nI s) (hT : t_end T = nI e) (hm : mtP f s e k → post T) (hn : ¬ mtP f s e k → k49 (t_value_s T (t_value T + 1))) : ∀ (c j : Nat), j + c = zz_len.getD k 0 → s + j ≤ e → (∀ i, i < j → f (s + i) = (zz_byt.getD k []).getD i 0) → wX3_stepOverWord_68 post k49 k (c + 1) T (nI j) := by
  have hl := zz_len_lt k hk
  intro c
  induction c with
  | zero =>
    intro j e0 hj h0
    rw [wX3_stepOverWord_68]
    refine br_t (nI_le (by omega) (by omega)) ?_
    unfold wX3_stepOverWord_114
    rw [hs, hT, nI_add]
    refine bn_t (congrArg nI (by omega)) ⟨fun q S10 e10 => ?_, fun q => hm ⟨?_, fun i hi => h0 i (by omega)⟩⟩
    · subst e10
      exact hn (fun z => q (congrArg nI (by have := z.1; omega)))
    · have := (nI_eq (by omega) (by omega)).mp q
      omega
  | succ c ih =>
    intro j e0 hj h0
    have out : (¬ mtP f s e k) → wX3_stepOverWord_114 post k49 k T (nI j) := by
      intro z
      unfold wX3_stepOverWord_114
      refine bn_f (fun q => absurd ((nI_eq (by omega) (by omega)).mp q) (by omega)) (fun S8 e8 => ?_)
      subst e8
      exact hn z
    rw [wX3_stepOverWord_68, hs, hT, nI_add]
    refine br_f (nI_ge (by omega) (by omega)) (br_c (fun q => out (fun z => ?_)) (fun q => ?_))
    · have := (nI_leI (by omega) (by omega)).mp q
      have := z.1
      omega
    · have q2 : s + j < e := Nat.not_le.mp (fun w => q (nI_le w (by omega)))
      rw [nI_clamp (n := s + j) (by omega), nI_clamp (n := j) (by omega), hb]
      refine ⟨v120 (by omega), vp_in_nI (by omega) (by omega), ⟨fun w => out (fun z => w (z.2 j (by omega))), fun w => ?_⟩⟩
      rw [← nI_succ]
      refine ih (j + 1) (by omega) (by omega) (fun i hi => ?_)
      by_cases q3 : i = j
      · rw [q3]; exact w
      · exact h0 i (by omega)
set_option maxHeartbeats 400000 in
theorem s3_nameOf {post : Nat → Prop} {k : Nat} (hk : k < 13) (h : post k) : wX3_nameOf post (nI k) := by
  have q : ∀ j, j < 13 → nI k = nI j → post j := fun j hj e => by
    rw [← (nI_eq (by omega) (by omega)).mp e]; exact h
  refine ⟨q 0 (by omega), q 1 (by omega), q 2 (by omega), q 3 (by omega), q 4 (by omega), q 5 (by omega), q 6 (by omega), q 7 (by omega), q 8 (by omega), q 9 (by omega), q 10 (by omega), q 11 (by omega), q 12 (by omega), fun z => ?_⟩
  rw [nI_toInt (by omega)] at z
  omega
set_option maxHeartbeats 400000 in
theorem s3_word_49 {post : TSt → Prop} {T : TSt} {s e : Nat} (hse : s ≤ e) (he : e ≤ 120) (hb : t_bytes T = f) (hs : t_start T = nI s) (hT : t_end T = nI e) {r : Nat} (h : post (t_value_s T (nI r))) : ∀ (c k : Nat), k + c = 13 → r = wIx f s e c k → wX3_stepOverWord_49 post (c + 1) (t_value_s T (nI k)) := by
  intro c
  induction c with
  | zero =>
    intro k e0 hr
    replace hr : r = k := hr
    subst hr
    rw [wX3_stepOverWord_49]
    exact br_t (show (13 : Int32) ≤ nI r from nI_le (a := 13) (by omega) (by omega)) h
  | succ c ih =>
    intro k e0 hr
    rw [wX3_stepOverWord_49]
    refine br_f (show ¬ (13 : Int32) ≤ nI k from nI_ge (b := 13) (by omega) (by omega)) (show wX3_nameOf _ (nI k) from s3_nameOf (by omega) ⟨by omega, zz_len.getD k 0 + 1, ?_⟩)
    rw [wIx] at hr
    refine s3_word_68 (f := f) (T := t_value_s T (nI k)) (s := s) (e := e) (k := k) (by omega) hse he hb hs hT (fun z => ?_) (fun z => ?_) (zz_len.getD k 0) 0 (by omega) (by omega) (fun i hi => absurd hi (Nat.not_lt_zero i))
    · rw [if_pos (mtB_iff.mpr z)] at hr
      subst hr
      exact h
    · rw [if_neg (fun w => z (mtB_iff.mp w))] at hr
      show wX3_stepOverWord_49 post (c + 1) (t_value_s T (nI k + 1))
      rw [← nI_succ]
      exact ih (k + 1) (by omega) hr
set_option maxHeartbeats 400000 in
theorem s3_word_0 {post : TSt → Prop} {T : TSt} {s : Nat} (hn : n ≤ 120) (hb : t_bytes T = f) (hl : t_length T = nI n) (hs : t_start T = nI s) {e : Nat} (he : e ≤ n) (h : post (t_value_s (t_token_s (t_end_s T (nI e)) 1) (nI (wIx f s e 13 0)))) : ∀ (c i : Nat), i + c = n → s ≤ i → e = run bL f c i → wX3_stepOverWord_0 post (c + 1) (t_end_s T (nI i)) := by
  have fin : ∀ i, s ≤ i → e = i → ∃ f14 : Nat, wX3_stepOverWord_49 post f14 (t_value_s (t_token_s (t_end_s T (nI i)) 1) 0) := by
    intro i h1 h2
    subst h2
    exact ⟨14, s3_word_49 (f := f) (T := t_token_s (t_end_s T (nI e)) 1) (s := s) (e := e) h1 (by omega) hb hs rfl h 13 0 rfl rfl⟩
  intro c
  induction c with
  | zero =>
    intro i e0 h1 h2
    rw [wX3_stepOverWord_0]
    refine br_t (show t_length T ≤ nI i from by rw [hl]; exact nI_le (by omega) (by omega)) (fun S2 e2 S3 e3 => ?_)
    subst e2; subst e3
    exact fin i h1 h2
  | succ c ih =>
    intro i e0 h1 h2
    rw [wX3_stepOverWord_0]
    refine br_f (show ¬ t_length T ≤ nI i from by rw [hl]; exact nI_ge (by omega) (by omega)) ⟨v120 (by omega), s3_isLetter ?_⟩
    have eb : t_bytes (t_end_s T (nI i)) (Int32.toNatClampNeg (t_end (t_end_s T (nI i)))) = f i := by
      show t_bytes T (nI i).toNatClampNeg = f i
      rw [nI_clamp (by omega), hb]
    rw [eb]
    rw [run] at h2
    cases q : bL (f i)
    · rw [q] at h2
      refine br_t rfl (fun S2 e2 S3 e3 => ?_)
      subst e2; subst e3
      exact fin i h1 h2
    · rw [q] at h2
      refine br_f (by decide) (fun S2 e2 => ?_)
      subst e2
      show wX3_stepOverWord_0 post (c + 1) (t_end_s T (nI i + 1))
      rw [← nI_succ]
      exact ih (i + 1) (by omega) (by omega) h2
set_option maxHeartbeats 400000 in
theorem s3_num_10 {post : TSt → Prop} {T : TSt} {s : Nat} (hn : n ≤ 120) (hb : t_bytes T = f) (hl : t_length T = nI n) (hB : ∀ i, Rg 255 (f i)) {e : Nat} (h : post (t_end_s (t_value_s T (nI (nX f s (e - s)))) (nI e))) : ∀ (c i : Nat), i + c = n → s ≤ i → e = run bD f c i → wX3_stepOverNumber_10 post (c + 1) (t_end_s (t_value_s T (nI (nX f s (i - s)))) (nI i)) := by
  intro c
  induction c with
  | zero =>
    intro i e0 h1 h2
    replace h2 : e = i := h2
    subst h2
    rw [wX3_stepOverNumber_10]
    exact br_t (show t_length T ≤ nI e from by rw [hl]; exact nI_le (by omega) (by omega)) h
  | succ c ih =>
    intro i e0 h1 h2
    rw [wX3_stepOverNumber_10]
    have eb : t_bytes (t_end_s (t_value_s T (nI (nX f s (i - s)))) (nI i)) (Int32.toNatClampNeg (t_end (t_end_s (t_value_s T (nI (nX f s (i - s)))) (nI i)))) = f i := by
      show t_bytes T (nI i).toNatClampNeg = f i
      rw [nI_clamp (by omega), hb]
    rw [eb]
    refine br_f (show ¬ t_length T ≤ nI i from by rw [hl]; exact nI_ge (by omega) (by omega)) ⟨v120 (by omega), s3_isDigit ?_⟩
    rw [run] at h2
    cases q : bD (f i)
    · rw [q] at h2
      replace h2 : e = i := h2
      subst h2
      exact br_t rfl h
    · rw [q] at h2
      refine br_f (by decide) ⟨v120 (by omega), fun S6 e6 S7 e7 => ?_⟩
      subst e6; subst e7
      have ev : (if ((((nI (nX f s (i - s))) * 10) + f i) - 48) < 1000 then ((((nI (nX f s (i - s))) * 10) + f i) - 48) else 1000) = nI (nX f s (i + 1 - s)) := by
        obtain ⟨b, hb2, eb2⟩ := hB i
        have hx := nX_le f s (i - s)
        have hd : 48 ≤ b := by
          unfold bD at q
          rw [Bool.and_eq_true, decide_eq_true_eq, decide_eq_true_eq, eb2] at q
          exact (nI_leI (a := 48) (by decide) (by omega)).mp q.1
        rw [show i + 1 - s = (i - s) + 1 from by omega, nX, show s + (i - s) = i from by omega, eb2, nI_clamp (by omega)]
        rw [show nI (nX f s (i - s)) * 10 = nI (nX f s (i - s) * 10) from nI_mul _ 10, nI_add, show nI (nX f s (i - s) * 10 + b) - 48 = nI (nX f s (i - s) * 10 + b - 48) from nI_sub (b := 48) (by omega)]
        by_cases c : nX f s (i - s) * 10 + b - 48 < 1000
        · rw [if_pos c, if_pos (show nI (nX f s (i - s) * 10 + b - 48) < 1000 from nI_lt (b := 1000) c (by decide))]
        · rw [if_neg c, if_neg (show ¬ nI (nX f s (i - s) * 10 + b - 48) < 1000 from nI_nlt (b := 1000) (by omega) (by omega))]
          rfl
      show wX3_stepOverNumber_10 post (c + 1) (t_end_s (t_value_s T (if ((((nI (nX f s (i - s))) * 10) + f i) - 48) < 1000 then ((((nI (nX f s (i - s))) * 10) + f i) - 48) else 1000)) (nI i + 1))
      rw [ev, ← nI_succ]
      exact ih (i + 1) (by omega) (by omega) h2
set_option maxHeartbeats 400000 in
theorem s3_step_46 {post : TSt → Prop} {T : TSt} {p : Nat} (hn : n ≤ 120) (hp : p ≤ n) (hb : t_bytes T = f) (hl : t_length T = nI n) (hs : t_start T = nI (tS f n p)) (hB : ∀ i, Rg 255 (f i)) (h : ∀ T', TA f n T' p → t_memories T' = t_memories T → post T') : wX3_step_46 post T := by
  have q1 := tS_le (f := f) hp
  intro S3 e3
  rw [hs] at e3
  subst e3
  have ks : t_start (t_end_s T (nI (tS f n p))) = nI (tS f n p) := hs
  have kb : t_bytes (t_end_s T (nI (tS f n p))) = f := hb
  rw [ks, kb, show t_length (t_end_s T (nI (tS f n p))) = nI n from hl, nI_clamp (by omega)]
  by_cases c : n ≤ tS f n p
  · have ek : tK f n p = 0 := by unfold tK; rw [if_pos c]
    have ee : tE f n p = tS f n p := by unfold tE; rw [if_pos c]
    refine br_f (nI_nlt c (by omega)) (fun S e => ?_)
    subst e
    refine h _ ⟨hb, hl, hs, ?_, ?_, fun z => ?_⟩ rfl
    · rw [ee]; rfl
    · rw [ek]; rfl
    · omega
  · have v := v120 (i := tS f n p) (by omega)
    refine br_t (nI_lt (by omega) (by omega)) ⟨v, s3_isLetter ?_⟩
    cases cl : bL (f (tS f n p))
    · refine br_t rfl ⟨v, s3_isDigit ?_⟩
      cases cd : bD (f (tS f n p))
      · have ee : tE f n p = tS f n p + 1 := by unfold tE; rw [if_neg c, cl, cd]; rfl
        refine br_t rfl ⟨v, ⟨fun q S e S2 e2 => ?_, fun q S e S2 e2 => ?_⟩⟩
        · have ek : tK f n p = 4 := by unfold tK; rw [if_neg c, cl, cd, if_neg q]; rfl
          subst e; subst e2
          refine h _ ⟨hb, hl, hs, ?_, ?_, fun z => ?_⟩ rfl
          · rw [ee]
            show t_start T + 1 = _
            rw [hs]; exact nI_1 _
          · rw [ek]; rfl
          · omega
        · have ek : tK f n p = 3 := by unfold tK; rw [if_neg c, cl, cd, if_pos q]; rfl
          subst e; subst e2
          refine h _ ⟨hb, hl, hs, ?_, ?_, fun z => ?_⟩ rfl
          · rw [ee]
            show t_start T + 1 = _
            rw [hs]; exact nI_1 _
          · rw [ek]; rfl
          · omega
      · have ek : tK f n p = 2 := by unfold tK; rw [if_neg c, cl, cd]; rfl
        have ee : tE f n p = run bD f (n - tS f n p) (tS f n p) := by unfold tE; rw [if_neg c, cl, cd]; rfl
        have ev : tV f n p = nX f (tS f n p) (tE f n p - tS f n p) := by unfold tV; rw [if_neg (by omega)]
        refine br_f (by decide) (fun S e S2 e2 => ⟨n - tS f n p + 1, ?_⟩)
        subst e; subst e2
        have e0 : t_value_s (t_token_s (t_end_s T (nI (tS f n p))) 2) 0 = t_end_s (t_value_s (t_token_s (t_end_s T (nI (tS f n p))) 2) (nI (nX f (tS f n p) (tS f n p - tS f n p)))) (nI (tS f n p)) := by
          rw [Nat.sub_self]
          rfl
        rw [e0]
        refine s3_num_10 (f := f) (n := n) (T := t_token_s (t_end_s T (nI (tS f n p))) 2) (s := tS f n p) (e := tE f n p) hn hb hl hB ?_ (n - tS f n p) (tS f n p) (by omega) (Nat.le_refl _) ee
        refine h _ ⟨hb, hl, hs, rfl, ?_, fun z => ?_⟩ rfl
        · rw [ek]; rfl
        · rw [ev]; rfl
    · have ek : tK f n p = 1 := by unfold tK; rw [if_neg c, cl]; rfl
      have ee : tE f n p = run bL f (n - tS f n p) (tS f n p) := by unfold tE; rw [if_neg c, cl]; rfl
      have ev : tV f n p = wIx f (tS f n p) (tE f n p) 13 0 := by unfold tV; rw [if_pos ek]
      refine br_f (by decide) ⟨n - tS f n p + 1, ?_⟩
      refine s3_word_0 (f := f) (n := n) (T := T) (s := tS f n p) (e := tE f n p) hn hb hl hs (tE_le hp).2 ?_ (n - tS f n p) (tS f n p) (by omega) (Nat.le_refl _) ee
      refine h _ ⟨hb, hl, hs, rfl, ?_, fun z => ?_⟩ rfl
      · rw [ek]; rfl
      · rw [ev]; rfl
set_option maxHeartbeats 400000 in
theorem s3_step_8 {post : TSt → Prop} {T : TSt} (hn : n ≤ 120) (hb : t_bytes T = f) (hl : t_length T = nI n) {s : Nat} (h : wX3_step_46 post (t_start_s T (nI s))) : ∀ (c i : Nat), i + c = n → s = run bB f c i → wX3_step_8 post (c + 1) (t_start_s T (nI i)) := by
  intro c
  induction c with
  | zero =>
    intro i e0 h2
    replace h2 : s = i := h2
    subst h2
    rw [wX3_step_8]
    exact br_t (show t_length T ≤ nI s from by rw [hl]; exact nI_le (by omega) (by omega)) h
  | succ c ih =>
    intro i e0 h2
    rw [wX3_step_8]
    have eb : t_bytes (t_start_s T (nI i)) (Int32.toNatClampNeg (t_start (t_start_s T (nI i)))) = f i := by
      show t_bytes T (nI i).toNatClampNeg = f i
      rw [nI_clamp (by omega), hb]
    rw [eb]
    refine br_f (show ¬ t_length T ≤ nI i from by rw [hl]; exact nI_ge (by omega) (by omega)) ⟨v120 (by omega), ?_⟩
    rw [run] at h2
    refine ⟨fun q => ?_, fun q S e => ?_⟩
    · rw [if_neg (by simp [bB, q])] at h2
      subst h2
      exact h
    · rw [if_pos (by simp [bB, q])] at h2
      subst e
      show wX3_step_8 post (c + 1) (t_start_s T (nI i + 1))
      rw [← nI_succ]
      exact ih (i + 1) (by omega) h2
set_option maxHeartbeats 400000 in
theorem s3_step {post : TSt → Prop} {T : TSt} {p : Nat} (hn : n ≤ 120) (hp : p ≤ n) (hb : t_bytes T = f) (hl : t_length T = nI n) (he : t_end T = nI p) (hB : ∀ i, Rg 255 (f i)) (h : ∀ T', TA f n T' p → t_memories T' = t_memories T → post T') : wX3_step post T := by
  intro S1 e1
  rw [he] at e1
  subst e1
  refine ⟨n - p + 1, s3_step_8 (f := f) (n := n) (s := tS f n p) hn hb hl ?_ (n - p) p (by omega) rfl⟩
  exact s3_step_46 (T := t_start_s T (nI (tS f n p))) hn hp hb hl rfl hB h
end TokX
