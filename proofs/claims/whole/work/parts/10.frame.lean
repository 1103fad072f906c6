/-! THE FRAME: a judgement zV over worlds as data (cells, locals, stack), rows of it, contracts zC, calls. -/
theorem zT_sub : ∀ w ∈ zT, w ∈ lw_tbl := fun _ h => (List.mem_filter.mp h).1
theorem zT_good {w : Cond} (h : w ∈ zT) : (w.onTables && w.keeps) = true ∨ ∃ ty, w = .arrayClass ty := good_of_word (List.mem_filter.mp h).2
theorem zT_goodIn (ws : List Cond) (h : ∀ w ∈ ws, w ∈ zT) (c0 : Cond) : GoodIn (c0 :: zT) ws := fun w hw => ⟨List.mem_cons_of_mem _ (h w hw), zT_good (h w hw)⟩
/-! worlds by members -/
theorem zz_Pm {D : va_G} {cl : List vw_C} {ws : va_W} {H : Heap} : va_P D cl ws H ↔ ∀ q ∈ ws, va_at D cl q H := by
  constructor
  · intro h q hq
    obtain ⟨i, hi⟩ := List.getElem?_of_mem hq
    exact h i q hi
  · intro h k q hk
    exact h q (List.mem_of_getElem? hk)
theorem zz_Dm {A : Nat → Prop} {ws : va_W} : va_D A ws ↔ (ws.map Prod.fst).Nodup ∧ ∀ q ∈ ws, A q.1 := by
  constructor
  · intro h
    refine ⟨?_, fun q hq => ?_⟩
    · rw [List.nodup_iff_pairwise_ne, List.pairwise_iff_getElem]
      intro i j hi hj hij he
      simp only [List.length_map] at hi hj
      have h1 := h.1 i j ws[i] ws[j] (List.getElem?_eq_getElem hi) (List.getElem?_eq_getElem hj) (by simpa using he)
      omega
    · obtain ⟨i, hi⟩ := List.getElem?_of_mem hq
      exact h.2 i q hi
  · intro h
    refine ⟨fun i j p q hi hj he => ?_, fun k q hk => h.2 q (List.mem_of_getElem? hk)⟩
    have h1 := List.pairwise_iff_getElem.mp (List.nodup_iff_pairwise_ne.mp h.1)
    obtain ⟨hi1, hi2⟩ := List.getElem?_eq_some_iff.mp hi
    obtain ⟨hj1, hj2⟩ := List.getElem?_eq_some_iff.mp hj
    rcases Nat.lt_trichotomy i j with hlt | heq | hgt
    · exact (h1 i j (by simpa using hi1) (by simpa using hj1) hlt (by simp [hi2, hj2, he])).elim
    · exact heq
    · exact (h1 j i (by simpa using hj1) (by simpa using hi1) hgt (by simp [hi2, hj2, he])).elim
theorem zz_Pp {D : va_G} {cl : List vw_C} {ws ws' : va_W} {H : Heap} (hp : ws.Perm ws') (h : va_P D cl ws H) : va_P D cl ws' H := zz_Pm.mpr fun q hq => zz_Pm.mp h q (hp.mem_iff.mpr hq)
theorem zz_Dp {A : Nat → Prop} {ws ws' : va_W} (hp : ws.Perm ws') (h : va_D A ws) : va_D A ws' := by
  have h1 := zz_Dm.mp h
  exact zz_Dm.mpr ⟨(hp.map Prod.fst).nodup h1.1, fun q hq => h1.2 q (hp.mem_iff.mpr hq)⟩
theorem zz_Am {ws : va_W} {sz q : Nat} : va_A ws sz q ↔ q ∈ ws.map Prod.fst ∨ sz ≤ q := by
  constructor
  · rintro (⟨k, e, h⟩ | h)
    · exact Or.inl (List.mem_map.mpr ⟨(q, e), List.mem_of_getElem? h, rfl⟩)
    · exact Or.inr h
  · rintro (h | h)
    · obtain ⟨x, hx, rfl⟩ := List.mem_map.mp h
      obtain ⟨i, hi⟩ := List.getElem?_of_mem hx
      exact Or.inl ⟨i, x.2, hi⟩
    · exact Or.inr h
/-- the frame rule: the callee's cells mid in front, the rest behind -/
theorem zz_frame {A : Nat → Prop} {D : va_G} {cl : List vw_C} {mid suf w1 : va_W} {H H1 : Heap} (hP : va_P D cl (mid ++ suf) H) (hD : va_D A (mid ++ suf))
    (hk : ∀ q : Nat, q < H.size → ¬ va_A mid H.size q → H1[q]? = H[q]?) (hF : ∀ q, va_A mid H.size q → A q) (hP1 : va_P D cl w1 H1) (hD1 : va_D (va_A mid H.size) w1) : va_P D cl (w1 ++ suf) H1 ∧ va_D A (w1 ++ suf) := by
  have hPm := zz_Pm.mp hP
  have hDm := zz_Dm.mp hD
  have hD1m := zz_Dm.mp hD1
  have hnd := hDm.1
  rw [List.map_append, List.nodup_append] at hnd
  have apart : ∀ q ∈ suf, q.1 < H.size ∧ ¬ va_A mid H.size q.1 := by
    intro q hq
    have hl := (hPm q (List.mem_append_right _ hq)).lt
    refine ⟨hl, fun h => ?_⟩
    rcases zz_Am.mp h with h | h
    · exact hnd.2.2 _ h _ (List.mem_map.mpr ⟨q, hq, rfl⟩) rfl
    · omega
  refine ⟨zz_Pm.mpr fun q hq => ?_, zz_Dm.mpr ⟨?_, fun q hq => ?_⟩⟩
  · rcases List.mem_append.mp hq with h | h
    · exact zz_Pm.mp hP1 q h
    · exact (hPm q (List.mem_append_right _ h)).kept (hk q.1 (apart q h).1 (apart q h).2)
  · rw [List.map_append, List.nodup_append]
    refine ⟨hD1m.1, hnd.2.1, fun a ha b hb hab => ?_⟩
    obtain ⟨x, hx, rfl⟩ := List.mem_map.mp ha
    obtain ⟨y, hy, rfl⟩ := List.mem_map.mp hb
    exact (apart y hy).2 (by rw [← hab]; exact hD1m.2 x hx)
  · rcases List.mem_append.mp hq with h | h
    · exact hF _ (hD1m.2 q h)
    · exact hDm.2 q (List.mem_append_right _ h)
theorem zz_freeA {A : Nat → Prop} {mid suf : va_W} {H0 H : Heap} {locs : List Loc} (hD : va_D A (mid ++ suf)) (hS : va_S A H0 H locs) (hA : ∀ q, H0.size ≤ q → A q) : ∀ q, va_A mid H.size q → A q := by
  intro q h
  rcases zz_Am.mp h with h | h
  · obtain ⟨x, hx, rfl⟩ := List.mem_map.mp h
    exact (zz_Dm.mp hD).2 x (List.mem_append_left _ hx)
  · exact hA q (Nat.le_trans hS.1 h)
/-! what every start knows: classes, array classes, the string constants, two statics -/
abbrev zz_Z : Type := va_G × (ClassId × ClassId × ClassId) × (Nat → Nat) × (Nat → Nat)
abbrev zz_B : Type := Launch × zz_Z
def zz_tys (K : ClassId × ClassId × ClassId) : List (ClassId × FieldType) := [(K.1, .int), (K.2.1, .long), (K.2.2, .object "DusterRounds$Sheet")]
def zz_txt : List String := ["duster", "hemmed", "glass", "wool", "wedding", "silk", "holds", "grime", "room", "dust", "has", "falls", "wash", ""]
def zz_pool : List Nat := [123, 125, 127, 129, 131, 133, 135, 137, 139, 141, 142, 144, 146, 148]
def zz_len : List Nat := [6, 6, 5, 4, 7, 4, 5, 5, 4, 4, 3, 5, 4, 0]
def zz_byt : List (List Int32) := [[100, 117, 115, 116, 101, 114], [104, 101, 109, 109, 101, 100], [103, 108, 97, 115, 115], [119, 111, 111, 108], [119, 101, 100, 100, 105, 110, 103], [115, 105, 108, 107], [104, 111, 108, 100, 115], [103, 114, 105, 109, 101], [114, 111, 111, 109], [100, 117, 115, 116], [104, 97, 115], [102, 97, 108, 108, 115], [119, 97, 115, 104], []]
def zz_E (z : zz_Z) (A : Nat → Prop) (U : State) (H : Heap) : Prop :=
  vk_S 14 zz_len zz_byt z.2.2.1 z.2.2.2 A U H ∧ (∀ k, k < 14 → vk_R "DusterRounds$Tape" (zz_pool.getD k 0) (zz_txt.getD k "") (z.2.2.1 k) U) ∧
  va_Z "java/lang/String" "COMPACT_STRINGS" "Z" (.int 1) A U H ∧ va_Zq "jdk/internal/util/Preconditions" "SIOOBE_FORMATTER" "Ljava/util/function/BiFunction;" A U H ∧
  va_Nw (.methodLinkNest "DusterRounds" 27 ⟨"DusterRounds$Tape", "<init>", "()V"⟩ "DusterRounds") U ∧ va_Nw (.methodLinkNest "DusterRounds" 46 ⟨"DusterRounds$Sheet", "<init>", "()V"⟩ "DusterRounds") U ∧ va_AO "DusterRounds$Sheet" U
theorem zz_E.warm {z : zz_Z} {A : Nat → Prop} {s U : State} {H : Heap} (hW : s.WarmedH U.vm) (h : zz_E z A s H) : zz_E z A U H :=
  ⟨vk_S.moved hW.alike h.1, fun k hk => vk_R.warm hW (h.2.1 k hk), va_Z.moved hW.alike h.2.2.1, va_Zq.moved hW.alike h.2.2.2.1, va_Nw.warmM hW h.2.2.2.2.1, va_Nw.warmM hW h.2.2.2.2.2.1, va_AO.moved hW.alike h.2.2.2.2.2.2⟩
theorem zz_E.same {z : zz_Z} {A : Nat → Prop} {s U : State} {H : Heap} (hv : U.vm = s.vm) (h : zz_E z A s H) : zz_E z A U H := by
  have ha : s.vm.Alike U.vm := by rw [hv]; exact Vm.Alike.refl _
  exact ⟨vk_S.moved ha h.1, fun k hk => vk_R.same hv (h.2.1 k hk), va_Z.moved ha h.2.2.1, va_Zq.moved ha h.2.2.2.1, va_Nw.same rfl hv.symm h.2.2.2.2.1, va_Nw.same rfl hv.symm h.2.2.2.2.2.1, va_AO.moved ha h.2.2.2.2.2.2⟩
theorem zz_E.kept {z : zz_Z} {A : Nat → Prop} {U : State} {H H1 : Heap} (h : zz_E z A U H) (hq : ∀ a : Nat, a < H.size → ¬ A a → H1[a]? = H[a]?) : zz_E z A U H1 :=
  ⟨vk_S.kept h.1 hq, h.2.1, va_Z.kept h.2.2.1 hq, va_Zq.kept h.2.2.2.1 hq, h.2.2.2.2⟩
theorem zz_E.narrow {z : zz_Z} {A B : Nat → Prop} {U : State} {H : Heap} (h : zz_E z A U H) (hAB : ∀ q, B q → A q) : zz_E z B U H :=
  ⟨vk_S.narrow h.1 hAB, h.2.1, va_Z.narrow h.2.2.1 hAB, va_Zq.narrow h.2.2.2.1 hAB, h.2.2.2.2⟩
/-! the judgement -/
abbrev zz_X : Type := (Program × Env × Room × State) × (MethodId × Array Value × List Frame × Method × Code) × ((State → Prop) × (Nat → Prop) × Nat × Nat)
def zV (β : zz_B) (nL : Nat) (Γ : zz_X) (ws : va_W) (pc : Nat) (lv : List (Nat × Value)) (st : List Value) : Prop :=
  match Γ with
  | ((p, e, R, s), (m, args, below, meth, c), (Q, A, nc, ns)) => ∀ (H : Heap) (locs : List Loc) (ls : Array Slot), va_P β.2.1 vwCl ws H → va_D A ws → va_S A s.heap H locs → lv_has ls nL lv → W p β.1 e R s m args below meth c H locs nc ns Q (F0 m pc ls st)
def zG (β : zz_B) (nL : Nat) (Γ : zz_X) (cc : ByteArray) (own : String) (fr lo : Nat) : Prop :=
  match Γ with
  | ((p, _, R, s), (m, args, _, meth, c), (_, A, nc, ns)) => p.tables.exec = Jvm.exec ∧ c.code = cc ∧ c.maxLocals = nL ∧ s.vm.findClass own = some m.cls ∧ (∀ w ∈ zT, w.before args s = true) ∧ va_K β.2.1 vwCl (zz_tys β.2.2.1) s ∧ meth.locks = false ∧ (∀ q, s.heap.size ≤ q → A q) ∧ (fr ≤ R.frames ∧ lo ≤ R.locals) ∧ (nc ≤ R.cells ∧ ns ≤ R.slots) ∧ zz_E β.2 A s s.heap
def zQ (z : zz_Z) (post : Option Value → va_W → Prop) (A : Nat → Prop) : Array Value → State → Outcome → State → Prop := fun _ st oc t => (∃ (r : Option Value) (w : va_W), oc = .returned r ∧ post r w ∧ va_P z.1 vwCl w t.heap ∧ va_D A w) ∧ va_F A st t
def zR (β : zz_B) (Γ : zz_X) (ret : Option FieldType) (post : Option Value → va_W → Prop) : Prop :=
  match Γ with
  | ((_, _, _, s), (_, args, below, meth, _), (Q, A, nc, ns)) => Q = MQ below (zQ β.2 post A) args s nc ns A ∧ meth.sig.returnType = ret
def zPc (z : zz_Z) (av : List Value) (ws : va_W) (sz : Nat) : Array Value → State → Prop := va_Pc av (fun U => U.heap.size = sz ∧ va_P z.1 vwCl ws U.heap ∧ va_K z.1 vwCl (zz_tys z.2.1) U ∧ va_D (fun _ => True) ws ∧ zz_E z (va_A ws sz) U U.heap)
abbrev zrm (fr lo : Nat) : Room := { frames := fr, cells := 0, slots := 0, locals := lo }
def zC (β : zz_B) (y : MethodName) (b : ByteArray) (n : Nat) (ret : Option FieldType) (fr lo : Nat) (av : List Value) (ws : va_W) (post : Option Value → va_W → Prop) : Prop :=
  ∀ sz, Met β.1 y (.code y b n ret :: zT) (zrm fr lo) (zPc β.2 av ws sz) (zQ β.2 post (va_A ws sz)) 0 0 (va_A ws sz)
theorem zPc.blind {z : zz_Z} {av : List Value} {ws : va_W} {sz : Nat} : FrameBlind (zPc z av ws sz) := by
  intro a U g mk q
  obtain ⟨q0, q1, qP, qK, qD, qE⟩ := q
  exact ⟨q0, q1, qP, va_K.moved (u := U) (U := U.calling g mk a) (Vm.Alike.refl U.vm) qK, qD, zz_E.same (s := U) (U := U.calling g mk a) rfl qE⟩
/-- a contract out of a walk -/
theorem zC.of {β : zz_B} {y : MethodName} {b : ByteArray} {n : Nat} {ret : Option FieldType} {fr lo : Nat} {av : List Value} {ws : va_W} {post : Option Value → va_W → Prop} (hy : plainName y.cls = true) (hn : (lg_sl av).length ≤ n)
    (body : ∀ Γ, zG β n Γ b y.cls fr lo → zR β Γ ret post → zV β n Γ ws 0 (lv_args 0 av) []) : zC β y b n ret fr lo av ws post := by
  intro sz
  refine Met.ofW (cc := b) (maxL := n) (ret := ret) hy rfl ?_
  intro p e s m args below meth c s₁ B hml hv
  obtain ⟨rfl, hsz, hP, hK, hD0, hE⟩ := hv
  subst hsz
  have hts := atoms_spec (ws := .code y b n ret :: zT) B.pre
  have hown : s.vm.findClass y.cls = some m.cls := findClass_of_methodNamed B.named
  have hD := hD0.self (sz := s.heap.size)
  have hl := lv_entry av (n := n) hn
  rw [lg_entry_eq]
  exact body ((p, e, zrm fr lo, s), (m, av.toArray, below, meth, c), (MQ below (zQ β.2 post (va_A ws s.heap.size)) av.toArray s 0 0 (va_A ws s.heap.size), va_A ws s.heap.size, 0, 0))
    ⟨B.exec, B.bytes, hml, hown, fun w h => hts w (List.mem_cons_of_mem _ h), hK, B.notSynchronized, fun q h => Or.inr h, ⟨Nat.le_refl _, Nat.le_refl _⟩, ⟨Nat.le_refl _, Nat.le_refl _⟩, hE⟩ ⟨rfl, B.returns⟩ s.heap [] _ hP hD va_S.rf hl
