/-! the text, read: positions and houses -/
def mmF (f : Nat → Int32) (n : Nat) : Nat → Nat → Int32 → Nat × Option Int32
  | 0, p, s => (p, if tK f n p = 2 then none else some s)
  | c + 1, p, s => if num f n p 10 then mmF f n c (tE f n p) (s ||| (1 <<< (nI (tV f n p) &&& 31))) else (p, if tK f n p = 2 then none else some s)
def mems (f : Nat → Int32) (n p : Nat) : Nat × Option Int32 := if num f n p 10 then mmF f n 4 p 0 else (p, none)
def obnd {α β : Type} (R : Nat × Option α) (K : Nat → α → Nat × Option β) : Nat × Option β := match R with
  | (P, none) => (P, none)
  | (P, some s) => K P s
def adG (f : Nat → Int32) (n p : Nat) (H : HSt) (k s : Int32) : Nat × Option HSt := if wrd f n p 7 then (if num f n (tE f n p) 100 then (tE f n (tE f n p), some (adS H k s (nI (tV f n (tE f n p))))) else (tE f n p, none)) else (p, some (adS H k s 0))
def dsF (f : Nat → Int32) (n p : Nat) (H : HSt) (k : Int32) : Nat × Option HSt := if 8 ≤ (h_dusters H).toNatClampNeg then (p, none) else if wrd f n (tE f n p) 6 then obnd (mems f n (tE f n (tE f n p))) (fun P s => adG f n P H k s) else adG f n (tE f n p) H k 0
def rmC (f : Nat → Int32) (n p : Nat) (H : HSt) (r : Nat) : Nat × Option HSt := if wrd f n p 10 then obnd (mems f n (tE f n p)) (fun P s => (P, some (h_memories_s H (upd (h_memories H) r s)))) else (p, some H)
def rmF (f : Nat → Int32) (n p : Nat) (H : HSt) : Nat × Option HSt := if num f n p 8 then (if wrd f n (tE f n p) 9 then (if num f n (tE f n (tE f n p)) 100 then rmC f n (tE f n (tE f n (tE f n p))) (h_dust_s H (upd (h_dust H) (tV f n p) (nI (tV f n (tE f n (tE f n p)))))) (tV f n p) else (tE f n (tE f n p), none)) else rmC f n (tE f n p) H (tV f n p)) else (p, none)
def faF (f : Nat → Int32) (n p : Nat) (H : HSt) : Nat × Option HSt := if num f n p 21 then (tE f n p, some (h_fall_s H (nI (tV f n p)))) else (p, none)
def wsF (f : Nat → Int32) (n p : Nat) (H : HSt) : Nat × Option HSt := if num f n p (h_dusters H).toNatClampNeg then (tE f n p, some (waS H (tV f n p))) else (p, none)
def itF (f : Nat → Int32) (n p : Nat) (H : HSt) : Nat × Option HSt := if tK f n p = 1 then (if tV f n p = 8 then rmF f n (tE f n p) H else if tV f n p = 11 then faF f n (tE f n p) H else if tV f n p = 12 then wsF f n (tE f n p) H else if tV f n p ≤ 5 then dsF f n p H (nI (tV f n p)) else (p, none)) else (p, none)
set_option maxHeartbeats 400000 in
theorem upd_upd {f : Nat → Int32} {k : Nat} {a b : Int32} : upd (upd f k a) k b = upd f k b := by
  funext j
  unfold upd
  by_cases e : j = k
  · rw [if_pos e, if_pos e]
  · rw [if_neg e, if_neg e, if_neg e]
set_option maxHeartbeats 400000 in
theorem upd_self {f : Nat → Int32} {k : Nat} : upd f k (f k) = f := by
  funext j
  unfold upd
  by_cases e : j = k
  · rw [if_pos e, e]
  · rw [if_neg e]
set_option maxHeartbeats 400000 in
theorem adN_held {S : HSt} {n : Nat} {k s0 s g : Int32} : h_held_s (adN S n k s0 g) (upd (h_held (adN S n k s0 g)) n s) = adN S n k s g := by
  show h_held_s (adN S n k s0 g) (upd (upd (h_held S) n s0) n s) = _
  rw [upd_upd]
  rfl
set_option maxHeartbeats 400000 in
theorem adN_grime {S : HSt} {n : Nat} {k s g0 g : Int32} : h_grimes_s (adN S n k s g0) (upd (h_grimes (adN S n k s g0)) n g) = adN S n k s g := by
  show h_grimes_s (adN S n k s g0) (upd (upd (h_grimes S) n g0) n g) = _
  rw [upd_upd]
  rfl
set_option maxHeartbeats 400000 in
theorem bit_Rg : ∀ v, v < 10 → ((1 : Int32) <<< (nI v &&& 31)).toBitVec.toNat ≤ 1023 := by decide +kernel
section ParseX
variable {f : Nat → Int32} {n : Nat}
set_option maxHeartbeats 400000 in
theorem mmF_Rg : ∀ (c p : Nat) (s v : Int32), Rg 1023 s → (mmF f n c p s).2 = some v → Rg 1023 v := by
  intro c
  induction c with
  | zero =>
    intro p s v hs h
    rw [mmF] at h
    by_cases q : tK f n p = 2
    · simp [q] at h
    · simp [q] at h
      rw [← h]; exact hs
  | succ c ih =>
    intro p s v hs h
    rw [mmF] at h
    by_cases z : num f n p 10 = true
    · rw [if_pos z] at h
      exact ih _ _ v (Rg_or hs (Rg_bv (bit_Rg _ (num_iff.mp z).2))) h
    · rw [if_neg z] at h
      by_cases q : tK f n p = 2
      · simp [q] at h
      · simp [q] at h
        rw [← h]; exact hs
set_option maxHeartbeats 400000 in
theorem mems_Rg {p : Nat} {v : Int32} (h : (mems f n p).2 = some v) : Rg 1023 v := by
  unfold mems at h
  by_cases z : num f n p 10 = true
  · rw [if_pos z] at h
    exact mmF_Rg 4 p 0 v Rg0 h
  · rw [if_neg z] at h
    cases h
set_option maxHeartbeats 400000 in
theorem tE_up {p : Nat} (hp : p ≤ n) : p ≤ tE f n p ∧ tE f n p ≤ n := by
  have h1 := tS_le (f := f) hp
  have h2 := tE_le (f := f) hp
  omega
set_option maxHeartbeats 400000 in
theorem mmF_le : ∀ (c p : Nat) (s : Int32), p ≤ n → p ≤ (mmF f n c p s).1 ∧ (mmF f n c p s).1 ≤ n := by
  intro c
  induction c with
  | zero => intro p s hp; rw [mmF]; exact ⟨Nat.le_refl _, hp⟩
  | succ c ih =>
    intro p s hp
    rw [mmF]
    have h1 := tE_up (f := f) hp
    by_cases z : num f n p 10 = true
    · rw [if_pos z]
      have := ih (tE f n p) (s ||| (1 <<< (nI (tV f n p) &&& 31))) h1.2
      omega
    · rw [if_neg z]
      exact ⟨Nat.le_refl _, hp⟩
set_option maxHeartbeats 400000 in
theorem mems_le {p : Nat} (hp : p ≤ n) : p ≤ (mems f n p).1 ∧ (mems f n p).1 ≤ n := by
  unfold mems
  by_cases z : num f n p 10 = true
  · rw [if_pos z]; exact mmF_le 4 p 0 hp
  · rw [if_neg z]; exact ⟨Nat.le_refl _, hp⟩
/-! the component's reader -/
def Tx (f : Nat → Int32) (n : Nat) : Prop := n ≤ 120 ∧ ∀ i, Rg 255 (f i)
set_option maxHeartbeats 400000 in
theorem s3_stp {post : TSt → Prop} {T : TSt} {p : Nat} (hX : Tx f n) (hp : p ≤ n) (hT : TA f n T p) (h : ∀ T', TA f n T' (tE f n p) → t_memories T' = t_memories T → post T') : wX3_step post T :=
  s3_step hX.1 (tE_up hp).2 hT.1 hT.2.1 hT.2.2.2.1 hX.2 h
set_option maxHeartbeats 400000 in
theorem tok2 {T : TSt} {p : Nat} (hT : TA f n T p) : t_token T = 2 ↔ tK f n p = 2 := by
  have hle := tK_le (f := f) (n := n) (p := p)
  rw [hT.2.2.2.2.1]
  exact nI_eq (b := 2) (by omega) (by decide)
set_option maxHeartbeats 400000 in
theorem s3_mm {post : Int32 → TSt → Prop} (hX : Tx f n) {P : Nat} {o : Option Int32} (hs : ∀ T' v, TA f n T' P → o = some v → t_memories T' = v → post 1 T') (hn : ∀ T', TA f n T' P → o = none → post 0 T') : ∀ (c i p : Nat) (T : TSt) (s : Int32), i + c = 4 → p ≤ n → TA f n T p → t_memories T = s → (P, o) = mmF f n c p s → wX3_tellMemories_18 post (c + 1) T (nI i) := by
  have fin : ∀ (p : Nat) (T : TSt) (s : Int32), TA f n T p → t_memories T = s → (P, o) = (p, if tK f n p = 2 then none else some s) → (t_token T = 2 → post 0 T) ∧ (¬ t_token T = 2 → post 1 T) := by
    intro p T s hT hm e
    cases e
    refine br_c (fun c => hn T hT ?_) (fun c => hs T s hT ?_ hm)
    · rw [if_pos ((tok2 hT).mp c)]
    · rw [if_neg (fun z => c ((tok2 hT).mpr z))]
  intro c
  induction c with
  | zero =>
    intro i p T s e0 hp hT hm e
    rw [wX3_tellMemories_18]
    exact br_t (nI_le (a := 4) (by omega) (by omega)) (fin p T s hT hm e)
  | succ c ih =>
    intro i p T s e0 hp hT hm e
    rw [wX3_tellMemories_18]
    refine br_f (nI_ge (b := 4) (by omega) (by omega)) (s3_isNum (K := 10) hT (by omega) (by decide) ?_)
    rw [mmF] at e
    cases z : num f n p 10
    · rw [z] at e
      exact br_t rfl (fin p T s hT hm e)
    · rw [z] at e
      refine br_f (by decide) (fun S9 e9 => ?_)
      subst e9
      have ev : t_value T = nI (tV f n p) := hT.2.2.2.2.2 (Or.inr (num_iff.mp z).1)
      refine s3_stp (T := t_memories_s T (t_memories T ||| (1 <<< (t_value T &&& 31)))) hX hp hT (fun T' hT' hm' => ?_)
      rw [← nI_succ]
      refine ih (i + 1) (tE f n p) T' _ (by omega) (tE_up hp).2 hT' ?_ e
      rw [hm']
      show t_memories T ||| (1 <<< (t_value T &&& 31)) = _
      rw [hm, ev]
set_option maxHeartbeats 400000 in
theorem s3_mems {post : Int32 → TSt → Prop} (hX : Tx f n) {p : Nat} {T : TSt} (hp : p ≤ n) (hT : TA f n T p) (hs : ∀ T' v, TA f n T' (mems f n p).1 → (mems f n p).2 = some v → t_memories T' = v → post 1 T') (hn : ∀ T', TA f n T' (mems f n p).1 → (mems f n p).2 = none → post 0 T') : wX3_tellMemories post T := by
  intro S1 e1
  subst e1
  have hT1 : TA f n (t_memories_s T 0) p := hT
  refine s3_isNum (K := 10) hT1 (by omega) (by decide) ?_
  cases z : num f n p 10
  · have em : mems f n p = (p, none) := by unfold mems; rw [z]; rfl
    rw [em] at hn
    exact bn_t rfl (hn _ hT1 rfl)
  · have em : mems f n p = mmF f n 4 p 0 := by unfold mems; rw [z]; rfl
    rw [em] at hs hn
    exact bn_f (by decide) ⟨5, s3_mm hX hs hn 4 0 p (t_memories_s T 0) 0 rfl hp hT1 rfl rfl⟩
set_option maxHeartbeats 400000 in
theorem s3_adG {post : Int32 → TSt × HSt → Prop} (hX : Tx f n) {p d D : Nat} {T : TSt} {H : HSt} {k s : Int32} (hp : p ≤ n) (hT : TA f n T p) (hd : d < 8) (ed : h_dusters H = nI d) (ok : okS D H) (hk : Rg 5 k) (hr : Rg 1023 s) (hs : ∀ T' H', TA f n T' (adG f n p H k s).1 → (adG f n p H k s).2 = some H' → post 1 (T', H')) (hn : ∀ T' H', TA f n T' (adG f n p H k s).1 → zS H' → (adG f n p H k s).2 = none → post 0 (T', H')) : wX3_tellDuster_51 post (T, adS H k s 0) (nI d) := by
  unfold adG at hs hn
  have ok1 := ok.ad hd ed hk hr (g := 0) Rg0
  refine s3_isWord (k := 7) hT (by omega) ?_
  cases w : wrd f n p 7
  · rw [w] at hs
    exact br_t rfl (hs T _ hT rfl)
  · rw [w] at hs hn
    refine br_f (by decide) (s3_stp hX hp hT (fun T1 hT1 _ S12 e12 => ?_))
    subst e12
    refine s3_isNum (K := 100) hT1 (by omega) (by decide) ?_
    cases z : num f n (tE f n p) 100
    · rw [z] at hn
      exact bn_t rfl (hn T1 _ hT1 ok1.z rfl)
    · rw [z] at hs
      have ev : t_value T1 = nI (tV f n (tE f n p)) := hT1.2.2.2.2.2 (Or.inr (num_iff.mp z).1)
      rw [c8 hd]
      refine bn_f (by decide) ⟨v8 hd, fun S15 e15 => ?_⟩
      subst e15
      refine s3_stp hX (tE_up hp).2 hT1 (fun T2 hT2 _ S17 e17 => ?_)
      subst e17
      refine hs T2 _ hT2 ?_
      show some (adS H k s (nI (tV f n (tE f n p)))) = some (h_grimes_s (adS H k s 0) (upd (h_grimes (adS H k s 0)) d (t_value T1)))
      rw [ev, adS_n hd ed, adS_n hd ed, adN_grime]
set_option maxHeartbeats 400000 in
theorem s3_dsF {post : Int32 → TSt × HSt → Prop} (hX : Tx f n) {p D : Nat} {T : TSt} {H : HSt} (hp : p ≤ n) (hT : TA f n T p) (hk : tK f n p = 1) (hv : tV f n p ≤ 5) (ok : okS D H) (hs : ∀ T' H', TA f n T' (dsF f n p H (nI (tV f n p))).1 → (dsF f n p H (nI (tV f n p))).2 = some H' → post 1 (T', H')) (hn : ∀ T' H', TA f n T' (dsF f n p H (nI (tV f n p))).1 → zS H' → (dsF f n p H (nI (tV f n p))).2 = none → post 0 (T', H')) : wX3_tellDuster post (T, H) := by
  have ev : t_value T = nI (tV f n p) := hT.2.2.2.2.2 (Or.inl hk)
  obtain ⟨d, hd, ed⟩ := ok.many
  unfold dsF at hs hn
  rw [ed, nI_clamp (by omega)] at hs hn
  unfold wX3_tellDuster
  by_cases c : 8 ≤ d
  · obtain rfl : d = 8 := by omega
    rw [if_pos c] at hn
    refine s0_addFull ed (fun S3 e3 => ?_)
    subst e3
    exact br_f (by decide) (hn T H hT ok.z rfl)
  · have hd8 : d < 8 := by omega
    rw [if_neg c] at hs hn
    have hkr : Rg 5 (nI (tV f n p)) := ⟨_, hv, rfl⟩
    show wX0_addDuster _ H (t_value T)
    rw [ev]
    refine s0_addDuster hd8 ed (fun S3 e3 => ?_)
    subst e3
    refine br_t (nI_pos' (by omega)) (s3_stp hX hp hT (fun T1 hT1 _ S6 e6 => ?_))
    subst e6
    have hp1 := (tE_up (f := f) hp).2
    refine s3_isWord (k := 6) hT1 (by omega) ?_
    cases w : wrd f n (tE f n p) 6
    · rw [w] at hs hn
      exact br_t rfl (s3_adG hX hp1 hT1 hd8 ed ok hkr Rg0 hs hn)
    · rw [w] at hs hn
      refine br_f (by decide) (s3_stp hX hp1 hT1 (fun T2 hT2 _ S19 e19 => ?_))
      subst e19
      have hp2 := (tE_up (f := f) hp1).2
      have ok1 := ok.ad hd8 ed hkr (s := 0) (g := 0) Rg0 Rg0
      cases em : mems f n (tE f n (tE f n p)) with
      | mk P o =>
        have hP : P ≤ n := by have := (mems_le (f := f) hp2).2; rw [em] at this; exact this
        rw [em] at hs hn
        refine s3_mems hX hp2 hT2 (fun T' v hT' h1 h2 S22 e22 => ?_) (fun T' hT' h1 S22 e22 => ?_)
        · rw [em] at hT' h1
          replace h1 : o = some v := h1
          subst h1
          subst e22
          have hvr : Rg 1023 v := mems_Rg (p := tE f n (tE f n p)) (by rw [em])
          refine bn_f (by decide) ⟨?_, fun S24 e24 => ?_⟩
          · exact v8 hd8
          · have e25 : S24 = (T', adS H (nI (tV f n p)) v 0) := by
              rw [e24]
              show (T', h_held_s (adS H (nI (tV f n p)) 0 0) (upd (h_held (adS H (nI (tV f n p)) 0 0)) (nI d).toNatClampNeg (t_memories T'))) = _
              rw [c8 hd8, h2, adS_n hd8 ed, adS_n hd8 ed, adN_held]
            subst e25
            exact s3_adG hX hP hT' hd8 ed ok hkr hvr hs hn
        · rw [em] at hT' h1
          replace h1 : o = none := h1
          subst h1
          subst e22
          exact bn_t rfl (hn T' _ hT' ok1.z rfl)
set_option maxHeartbeats 400000 in
theorem s3_rmC {post : Int32 → TSt × HSt → Prop} (hX : Tx f n) {p r D : Nat} {T : TSt} {H : HSt} (hp : p ≤ n) (hT : TA f n T p) (hr : r < 8) (ok : okS D H) (hs : ∀ T' H', TA f n T' (rmC f n p H r).1 → (rmC f n p H r).2 = some H' → post 1 (T', H')) (hn : ∀ T' H', TA f n T' (rmC f n p H r).1 → zS H' → (rmC f n p H r).2 = none → post 0 (T', H')) : wX3_tellRoom_58 post (T, H) (nI r) := by
  unfold rmC at hs hn
  refine s3_isWord (k := 10) hT (by omega) ?_
  cases w : wrd f n p 10
  · rw [w] at hs
    exact br_t rfl (hs T _ hT rfl)
  · rw [w] at hs hn
    refine br_f (by decide) (s3_stp hX hp hT (fun T1 hT1 _ S11 e11 => ?_))
    subst e11
    have hp1 := (tE_up (f := f) hp).2
    cases em : mems f n (tE f n p) with
    | mk P o =>
      rw [em] at hs hn
      refine s3_mems hX hp1 hT1 (fun T' v hT' h1 h2 S14 e14 => ?_) (fun T' hT' h1 S14 e14 => ?_)
      · rw [em] at hT' h1
        replace h1 : o = some v := h1
        subst h1
        subst e14
        rw [c8 hr]
        refine bn_f (by decide) ⟨v8 hr, fun S16 e16 => ?_⟩
        subst e16
        refine hs T' _ hT' ?_
        show some (h_memories_s H (upd (h_memories H) r v)) = some (h_memories_s H (upd (h_memories H) r (t_memories T')))
        rw [h2]
      · rw [em] at hT' h1
        replace h1 : o = none := h1
        subst h1
        subst e14
        exact bn_t rfl (hn T' _ hT' ok.z rfl)
set_option maxHeartbeats 400000 in
theorem s3_rmF {post : Int32 → TSt × HSt → Prop} (hX : Tx f n) {p D : Nat} {T : TSt} {H : HSt} (hp : p ≤ n) (hT : TA f n T p) (ok : okS D H) (hs : ∀ T' H', TA f n T' (rmF f n p H).1 → (rmF f n p H).2 = some H' → post 1 (T', H')) (hn : ∀ T' H', TA f n T' (rmF f n p H).1 → zS H' → (rmF f n p H).2 = none → post 0 (T', H')) : wX3_tellRoom post (T, H) := by
  unfold rmF at hs hn
  refine s3_isNum (K := 8) hT (by omega) (by decide) ?_
  cases z : num f n p 8
  · rw [z] at hn
    exact bn_t rfl (hn T _ hT ok.z rfl)
  · rw [z] at hs hn
    have hr := (num_iff.mp z).2
    have ev : t_value T = nI (tV f n p) := hT.2.2.2.2.2 (Or.inr (num_iff.mp z).1)
    refine bn_f (by decide) (fun y ey => ?_)
    replace ey : y = nI (tV f n p) := ey.trans ev
    subst ey
    refine s3_stp hX hp hT (fun T1 hT1 _ S5 e5 => ?_)
    subst e5
    have hp1 := (tE_up (f := f) hp).2
    refine s3_isWord (k := 9) hT1 (by omega) ?_
    cases w : wrd f n (tE f n p) 9
    · rw [w] at hs hn
      exact br_t rfl (s3_rmC hX hp1 hT1 hr ok hs hn)
    · rw [w] at hs hn
      refine br_f (by decide) (s3_stp hX hp1 hT1 (fun T2 hT2 _ S18 e18 => ?_))
      subst e18
      have hp2 := (tE_up (f := f) hp1).2
      refine s3_isNum (K := 100) hT2 (by omega) (by decide) ?_
      cases z2 : num f n (tE f n (tE f n p)) 100
      · rw [z2] at hn
        exact bn_t rfl (hn T2 _ hT2 ok.z rfl)
      · rw [z2] at hs hn
        have ev2 : t_value T2 = nI (tV f n (tE f n (tE f n p))) := hT2.2.2.2.2.2 (Or.inr (num_iff.mp z2).1)
        rw [c8 hr]
        refine bn_f (by decide) ⟨v8 hr, fun S21 e21 => ?_⟩
        have e22 : S21 = (T2, h_dust_s H (upd (h_dust H) (tV f n p) (nI (tV f n (tE f n (tE f n p)))))) := by
          rw [e21]
          show (T2, h_dust_s H (upd (h_dust H) (tV f n p) (t_value T2))) = _
          rw [ev2]
        subst e22
        refine s3_stp hX hp2 hT2 (fun T3 hT3 _ S23 e23 => ?_)
        subst e23
        exact s3_rmC hX (tE_up hp2).2 hT3 hr (ok.set_dust hr ⟨_, by have := (num_iff.mp z2).2; omega, rfl⟩) hs hn
set_option maxHeartbeats 400000 in
theorem s3_itF {post : Int32 → TSt × HSt → Prop} (hX : Tx f n) {p D : Nat} {T : TSt} {H : HSt} (hp : p ≤ n) (hT : TA f n T p) (ok : okS D H) (hs : ∀ T' H', TA f n T' (itF f n p H).1 → (itF f n p H).2 = some H' → post 1 (T', H')) (hn : ∀ T' H', TA f n T' (itF f n p H).1 → zS H' → (itF f n p H).2 = none → post 0 (T', H')) : wX3_tellItem post (T, H) := by
  have hle := tK_le (f := f) (n := n) (p := p)
  have hvl := tV_le (f := f) (n := n) (p := p)
  have hp1 := (tE_up (f := f) hp).2
  unfold itF at hs hn
  refine br_c (fun c => ?_) (fun c => ?_)
  · have k1 : tK f n p = 1 := (nI_eq (b := 1) (by omega) (by decide)).mp (hT.2.2.2.2.1 ▸ c)
    have ev : t_value T = nI (tV f n p) := hT.2.2.2.2.2 (Or.inl k1)
    rw [if_pos k1] at hs hn
    have isv : ∀ j, j < 1000 → t_value T = nI j → tV f n p = j := fun j hj e => (nI_eq (by omega) (by omega)).mp (ev ▸ e)
    have tail : (¬ tV f n p = 8) → (¬ tV f n p = 11) → (¬ tV f n p = 12) → ((5 : Int32) < (t_value T) → post 0 (T, H)) ∧ (¬ (5 : Int32) < (t_value T) → wX3_tellDuster (fun v24 S25 => (v24 = 0 → post 0 S25) ∧ (¬ v24 = 0 → post 1 S25)) (T, H)) := by
      intro n8 n11 n12
      rw [if_neg n8, if_neg n11, if_neg n12] at hs hn
      rw [ev]
      by_cases c5 : tV f n p ≤ 5
      · rw [if_pos c5] at hs hn
        refine br_f (nI_nlt (b := tV f n p) (a := 5) c5 (by omega)) (s3_dsF hX hp hT k1 c5 ok (fun T' H' h1 h2 => br_f (by decide) (hs T' H' h1 h2)) (fun T' H' h1 h2 h3 => br_t rfl (hn T' H' h1 h2 h3)))
      · rw [if_neg c5] at hn
        exact br_t (nI_lt (a := 5) (by omega) (by omega)) (hn T H hT ok.z rfl)
    refine ⟨fun e => ?_, fun e => ?_, fun e => ?_, fun e => ?_, fun e => ?_, fun e => ?_⟩
    · rw [if_pos (isv 8 (by decide) e)] at hs hn
      refine s3_stp hX hp hT (fun T1 hT1 _ S4 e4 => ?_)
      subst e4
      exact s3_rmF hX hp1 hT1 ok (fun T' H' h1 h2 => ⟨Or.inr rfl, hs T' H' h1 h2⟩) (fun T' H' h1 h2 h3 => ⟨Or.inl rfl, hn T' H' h1 h2 h3⟩)
    · have := isv 9 (by decide) e
      exact tail (by omega) (by omega) (by omega)
    · have := isv 10 (by decide) e
      exact tail (by omega) (by omega) (by omega)
    · have e11 := isv 11 (by decide) e
      rw [if_neg (by omega), if_pos e11] at hs hn
      refine s3_stp hX hp hT (fun T1 hT1 _ S4 e4 => ?_)
      subst e4
      unfold faF at hs hn
      refine s3_isNum (K := 21) hT1 (by omega) (by decide) ?_
      cases z : num f n (tE f n p) 21
      · rw [z] at hn
        exact bn_t rfl ⟨Or.inl rfl, hn T1 _ hT1 ok.z rfl⟩
      · rw [z] at hs
        have ev2 : t_value T1 = nI (tV f n (tE f n p)) := hT1.2.2.2.2.2 (Or.inr (num_iff.mp z).1)
        refine bn_f (by decide) (fun S3 e3 => ?_)
        have e6 : S3 = (T1, h_fall_s H (nI (tV f n (tE f n p)))) := by
          rw [e3]
          show (T1, h_fall_s H (t_value T1)) = _
          rw [ev2]
        subst e6
        refine s3_stp hX hp1 hT1 (fun T2 hT2 _ S5 e5 => ?_)
        subst e5
        exact ⟨Or.inr rfl, hs T2 _ hT2 rfl⟩
    · have e12 := isv 12 (by decide) e
      rw [if_neg (by omega), if_neg (by omega), if_pos e12] at hs hn
      refine s3_stp hX hp hT (fun T1 hT1 _ S4 e4 => ?_)
      subst e4
      unfold wsF at hs hn
      obtain ⟨d, hd, ed⟩ := ok.many
      rw [ed, nI_clamp (by omega)] at hs hn
      refine s3_isNum (K := d) hT1 (by omega) (by show h_dusters H - 1 = _; rw [ed]) ?_
      cases z : num f n (tE f n p) d
      · rw [z] at hn
        exact bn_t rfl ⟨Or.inl rfl, hn T1 _ hT1 ok.z rfl⟩
      · rw [z] at hs
        have ev2 : t_value T1 = nI (tV f n (tE f n p)) := hT1.2.2.2.2.2 (Or.inr (num_iff.mp z).1)
        have hlt := (num_iff.mp z).2
        refine bn_f (by decide) ?_
        show wX0_washOne _ H (t_value T1)
        rw [ev2]
        refine s0_washOne (by omega) (fun S5 e5 => ?_)
        subst e5
        refine s3_stp hX hp1 hT1 (fun T2 hT2 _ S7 e7 => ?_)
        subst e7
        exact ⟨Or.inr rfl, hs T2 _ hT2 rfl⟩
    · have e0 : (nI (tV f n p)).toInt < 8 ∨ 12 < (nI (tV f n p)).toInt := by rw [← ev]; exact e
      rw [nI_toInt (by omega)] at e0
      exact tail (by omega) (by omega) (by omega)
  · have k1 : ¬ tK f n p = 1 := fun z => c (by show t_token T = 1; rw [hT.2.2.2.2.1, z]; rfl)
    rw [if_neg k1] at hn
    exact hn T H hT ok.z rfl
end ParseX
