/-! one instruction of the small machine is one of the great one -/
def zCx (P : zP) (p : Program) (s : State) (m : MethodId) (args : Array Value) (meth : Method) (c : Code) (mi : Nat) : Prop := p.tables.exec = Jvm.exec ∧ c.code = zco mi ∧ s.vm.findClass (zy mi).cls = some m.cls ∧ c.maxLocals = zml mi ∧ meth.locks = false ∧ ((zy mi).name = "<init>" → meth.name = "<init>") ∧ (∀ w ∈ zWF, w.before args s = true) ∧ zKK P s
theorem zok_d {mi pc nx : Nat} {i : Instr} {X : Bool} (h : (decide (decode (zco mi) pc = .ok (i, zlenI i)) && Nat.beq nx (pc + zlenI i) && X) = true) : decode (zco mi) pc = .ok (i, zlenI i) ∧ nx = pc + zlenI i ∧ X = true := by
  simp only [Bool.and_eq_true, decide_eq_true_eq] at h
  exact ⟨h.1.1, Nat.eq_of_beq_eq_true h.1.2, h.2⟩
theorem zv_getI {a : Nat} {nx pc' : Nat} {als ast als' ast' : List Value} {h h' : zH} (hs : zgetI als a nx ast h = .inl (true, pc', als', ast', h')) : ∃ x, als[a]? = some (.int x) ∧ pc' = nx ∧ als' = als ∧ ast' = .int x :: ast ∧ h' = h := by
  unfold zgetI at hs
  split at hs
  · rename_i x hx
    cases hs
    exact ⟨x, hx, rfl, rfl, rfl, rfl⟩
  · cases hs
theorem zv_getL {a : Nat} {nx pc' : Nat} {als ast als' ast' : List Value} {h h' : zH} (hs : zgetL als a nx ast h = .inl (true, pc', als', ast', h')) : ∃ x, als[a]? = some (.long x) ∧ pc' = nx ∧ als' = als ∧ ast' = .long x :: ast ∧ h' = h := by
  unfold zgetL at hs
  split at hs
  · rename_i x hx
    cases hs
    exact ⟨x, hx, rfl, rfl, rfl, rfl⟩
  · cases hs
theorem zv_getA {a : Nat} {nx pc' : Nat} {als ast als' ast' : List Value} {h h' : zH} (hs : zgetA als a nx ast h = .inl (true, pc', als', ast', h')) : ∃ x, als[a]? = some (.ref x) ∧ pc' = nx ∧ als' = als ∧ ast' = .ref x :: ast ∧ h' = h := by
  unfold zgetA at hs
  split at hs
  · rename_i x hx
    cases hs
    exact ⟨x, hx, rfl, rfl, rfl, rfl⟩
  · cases hs
theorem zv_putI {a : Nat} {nx pc' : Nat} {als ast als' ast' : List Value} {h h' : zH} (hs : zputI als a nx ast h = .inl (true, pc', als', ast', h')) : ∃ x, ast = .int x :: ast' ∧ zok1 als a = true ∧ a < als.length ∧ pc' = nx ∧ als' = als.set a (.int x) ∧ h' = h := by
  unfold zputI at hs
  split at hs
  · injection hs with hs
    injection hs with h1 h2
    injection h2 with h2 h3
    injection h3 with h3 h4
    injection h4 with h4 h5
    subst h2 h3 h4 h5
    simp only [Bool.and_eq_true] at h1
    exact ⟨_, rfl, h1.1, Nat.le_of_ble_eq_true h1.2, rfl, rfl, rfl⟩
  · cases hs
theorem zv_putA {a : Nat} {nx pc' : Nat} {als ast als' ast' : List Value} {h h' : zH} (hs : zputA als a nx ast h = .inl (true, pc', als', ast', h')) : ∃ x, ast = .ref x :: ast' ∧ zok1 als a = true ∧ a < als.length ∧ pc' = nx ∧ als' = als.set a (.ref x) ∧ h' = h := by
  unfold zputA at hs
  split at hs
  · injection hs with hs
    injection hs with h1 h2
    injection h2 with h2 h3
    injection h3 with h3 h4
    injection h4 with h4 h5
    subst h2 h3 h4 h5
    simp only [Bool.and_eq_true] at h1
    exact ⟨_, rfl, h1.1, Nat.le_of_ble_eq_true h1.2, rfl, rfl, rfl⟩
  · cases hs
theorem zv_putL {a : Nat} {nx pc' : Nat} {als ast als' ast' : List Value} {h h' : zH} (hs : zputL als a nx ast h = .inl (true, pc', als', ast', h')) : ∃ x, ast = .long x :: ast' ∧ zok1 als a = true ∧ (a + 1) < als.length ∧ pc' = nx ∧ als' = (als.set a (.long x)).set (a + 1) .null ∧ h' = h := by
  unfold zputL at hs
  split at hs
  · injection hs with hs
    injection hs with h1 h2
    injection h2 with h2 h3
    injection h3 with h3 h4
    injection h4 with h4 h5
    subst h2 h3 h4 h5
    simp only [Bool.and_eq_true] at h1
    exact ⟨_, rfl, h1.1, Nat.le_of_ble_eq_true h1.2, rfl, rfl, rfl⟩
  · cases hs
theorem zv_inc {a : Nat} {v : Value} {nx pc' : Nat} {als ast als' ast' : List Value} {h h' : zH} (hs : zinc als a nx v ast h = .inl (true, pc', als', ast', h')) : ∃ x k, v = .int k ∧ als[a]? = some (.int x) ∧ zok1 als a = true ∧ a < als.length ∧ pc' = nx ∧ als' = als.set a (.int (x + k)) ∧ ast' = ast ∧ h' = h := by
  unfold zinc at hs
  split at hs
  · rename_i k x hx
    injection hs with hs
    injection hs with h1 h2
    injection h2 with h2 h3
    injection h3 with h3 h4
    injection h4 with h4 h5
    subst h2 h3 h4 h5
    simp only [Bool.and_eq_true] at h1
    exact ⟨x, k, rfl, hx, h1.1, Nat.le_of_ble_eq_true h1.2, rfl, rfl, rfl, rfl⟩
  · cases hs
theorem zv_2i {f : Int32 → Int32 → Int32} {nx pc' : Nat} {als ast als' ast' : List Value} {h h' : zH} (hs : z2i f nx als ast h = .inl (true, pc', als', ast', h')) : ∃ y x r, ast = .int y :: .int x :: r ∧ pc' = nx ∧ als' = als ∧ ast' = .int (f x y) :: r ∧ h' = h := by
  unfold z2i at hs
  split at hs
  · cases hs
    exact ⟨_, _, _, rfl, rfl, rfl, rfl, rfl⟩
  · cases hs
theorem zv_2d {f : Int32 → Int32 → Int32} {nx pc' : Nat} {als ast als' ast' : List Value} {h h' : zH} (hs : z2d f nx als ast h = .inl (true, pc', als', ast', h')) : ∃ y x r, ast = .int y :: .int x :: r ∧ decide (¬ y = 0) = true ∧ pc' = nx ∧ als' = als ∧ ast' = .int (f x y) :: r ∧ h' = h := by
  unfold z2d at hs
  split at hs
  · injection hs with hs
    injection hs with h1 h2
    injection h2 with h2 h3
    injection h3 with h3 h4
    injection h4 with h4 h5
    subst h2 h3 h4 h5
    exact ⟨_, _, _, rfl, h1, rfl, rfl, rfl, rfl⟩
  · cases hs
theorem zv_1i {f : Int32 → Int32} {nx pc' : Nat} {als ast als' ast' : List Value} {h h' : zH} (hs : z1i f nx als ast h = .inl (true, pc', als', ast', h')) : ∃ x r, ast = .int x :: r ∧ pc' = nx ∧ als' = als ∧ ast' = .int (f x) :: r ∧ h' = h := by
  unfold z1i at hs
  split at hs
  · cases hs
    exact ⟨_, _, rfl, rfl, rfl, rfl, rfl⟩
  · cases hs
theorem zv_2l {f : Int64 → Int64 → Int64} {nx pc' : Nat} {als ast als' ast' : List Value} {h h' : zH} (hs : z2l f nx als ast h = .inl (true, pc', als', ast', h')) : ∃ y x r, ast = .long y :: .long x :: r ∧ pc' = nx ∧ als' = als ∧ ast' = .long (f x y) :: r ∧ h' = h := by
  unfold z2l at hs
  split at hs
  · cases hs
    exact ⟨_, _, _, rfl, rfl, rfl, rfl, rfl⟩
  · cases hs
theorem zv_sl {f : Int64 → Int32 → Int64} {nx pc' : Nat} {als ast als' ast' : List Value} {h h' : zH} (hs : zsl f nx als ast h = .inl (true, pc', als', ast', h')) : ∃ y x r, ast = .int y :: .long x :: r ∧ pc' = nx ∧ als' = als ∧ ast' = .long (f x y) :: r ∧ h' = h := by
  unfold zsl at hs
  split at hs
  · cases hs
    exact ⟨_, _, _, rfl, rfl, rfl, rfl, rfl⟩
  · cases hs
theorem zv_lcmp  {nx pc' : Nat} {als ast als' ast' : List Value} {h h' : zH} (hs : zlcmp nx als ast h = .inl (true, pc', als', ast', h')) : ∃ y x r, ast = .long y :: .long x :: r ∧ pc' = nx ∧ als' = als ∧ ast' = .int (lg_cmp x y) :: r ∧ h' = h := by
  unfold zlcmp at hs
  split at hs
  · cases hs
    exact ⟨_, _, _, rfl, rfl, rfl, rfl, rfl⟩
  · cases hs
theorem zv_lneg  {nx pc' : Nat} {als ast als' ast' : List Value} {h h' : zH} (hs : zlneg nx als ast h = .inl (true, pc', als', ast', h')) : ∃ x r, ast = .long x :: r ∧ pc' = nx ∧ als' = als ∧ ast' = .long (-x) :: r ∧ h' = h := by
  unfold zlneg at hs
  split at hs
  · cases hs
    exact ⟨_, _, rfl, rfl, rfl, rfl, rfl⟩
  · cases hs
theorem zv_i2l  {nx pc' : Nat} {als ast als' ast' : List Value} {h h' : zH} (hs : zi2l nx als ast h = .inl (true, pc', als', ast', h')) : ∃ x r, ast = .int x :: r ∧ pc' = nx ∧ als' = als ∧ ast' = .long x.toInt64 :: r ∧ h' = h := by
  unfold zi2l at hs
  split at hs
  · cases hs
    exact ⟨_, _, rfl, rfl, rfl, rfl, rfl⟩
  · cases hs
theorem zv_l2i  {nx pc' : Nat} {als ast als' ast' : List Value} {h h' : zH} (hs : zl2i nx als ast h = .inl (true, pc', als', ast', h')) : ∃ x r, ast = .long x :: r ∧ pc' = nx ∧ als' = als ∧ ast' = .int x.toInt32 :: r ∧ h' = h := by
  unfold zl2i at hs
  split at hs
  · cases hs
    exact ⟨_, _, rfl, rfl, rfl, rfl, rfl⟩
  · cases hs
theorem zv_dup  {nx pc' : Nat} {als ast als' ast' : List Value} {h h' : zH} (hs : zdup nx als ast h = .inl (true, pc', als', ast', h')) : ∃ v r, ast = v :: r ∧ Nat.beq v.category 1 = true ∧ pc' = nx ∧ als' = als ∧ ast' = v :: v :: r ∧ h' = h := by
  unfold zdup at hs
  split at hs
  · injection hs with hs
    injection hs with h1 h2
    injection h2 with h2 h3
    injection h3 with h3 h4
    injection h4 with h4 h5
    subst h2 h3 h4 h5
    exact ⟨_, _, rfl, h1, rfl, rfl, rfl, rfl⟩
  · cases hs
theorem zv_dup2  {nx pc' : Nat} {als ast als' ast' : List Value} {h h' : zH} (hs : zdup2 nx als ast h = .inl (true, pc', als', ast', h')) : ∃ v w r, ast = v :: w :: r ∧ (Nat.beq v.category 1 && Nat.beq w.category 1) = true ∧ pc' = nx ∧ als' = als ∧ ast' = v :: w :: v :: w :: r ∧ h' = h := by
  unfold zdup2 at hs
  split at hs
  · injection hs with hs
    injection hs with h1 h2
    injection h2 with h2 h3
    injection h3 with h3 h4
    injection h4 with h4 h5
    subst h2 h3 h4 h5
    exact ⟨_, _, _, rfl, h1, rfl, rfl, rfl, rfl⟩
  · cases hs
theorem zv_pop  {nx pc' : Nat} {als ast als' ast' : List Value} {h h' : zH} (hs : zpop nx als ast h = .inl (true, pc', als', ast', h')) : ∃ v r, ast = v :: r ∧ Nat.beq v.category 1 = true ∧ pc' = nx ∧ als' = als ∧ ast' = r ∧ h' = h := by
  unfold zpop at hs
  split at hs
  · injection hs with hs
    injection hs with h1 h2
    injection h2 with h2 h3
    injection h3 with h3 h4
    injection h4 with h4 h5
    subst h2 h3 h4 h5
    exact ⟨_, _, rfl, h1, rfl, rfl, rfl, rfl⟩
  · cases hs
theorem zv_obj  {nx pc' : Nat} {als ast als' ast' : List Value} {h h' : zH} (hs : zobj nx als ast h = .inl (true, pc', als', ast', h')) : ∃ b r, ast = .ref b :: r ∧ Nat.ble r.length 4 = true ∧ pc' = nx ∧ als' = als ∧ ast' = r ∧ h' = h := by
  unfold zobj at hs
  split at hs
  · injection hs with hs
    injection hs with h1 h2
    injection h2 with h2 h3
    injection h3 with h3 h4
    injection h4 with h4 h5
    subst h2 h3 h4 h5
    exact ⟨_, _, rfl, h1, rfl, rfl, rfl, rfl⟩
  · cases hs
theorem zv_max  {nx pc' : Nat} {als ast als' ast' : List Value} {h h' : zH} (hs : zmax nx als ast h = .inl (true, pc', als', ast', h')) : ∃ y x r, ast = .int y :: .int x :: r ∧ Nat.ble r.length 4 = true ∧ pc' = nx ∧ als' = als ∧ ast' = .int (if x < y then y else x) :: r ∧ h' = h := by
  unfold zmax at hs
  split at hs
  · injection hs with hs
    injection hs with h1 h2
    injection h2 with h2 h3
    injection h3 with h3 h4
    injection h4 with h4 h5
    subst h2 h3 h4 h5
    exact ⟨_, _, _, rfl, h1, rfl, rfl, rfl, rfl⟩
  · cases hs
theorem zv_min  {nx pc' : Nat} {als ast als' ast' : List Value} {h h' : zH} (hs : zmin nx als ast h = .inl (true, pc', als', ast', h')) : ∃ y x r, ast = .int y :: .int x :: r ∧ Nat.ble r.length 4 = true ∧ pc' = nx ∧ als' = als ∧ ast' = .int (if y < x then y else x) :: r ∧ h' = h := by
  unfold zmin at hs
  split at hs
  · injection hs with hs
    injection hs with h1 h2
    injection h2 with h2 h3
    injection h3 with h3 h4
    injection h4 with h4 h5
    subst h2 h3 h4 h5
    exact ⟨_, _, _, rfl, h1, rfl, rfl, rfl, rfl⟩
  · cases hs
theorem zv_mkM {nx pc' : Nat} {als ast als' ast' : List Value} {h h' : zH} (hs : zmkM nx als ast h = .inl (true, pc', als', ast', h')) : ∃ k n r, ast = .int k :: .int n :: r ∧ zin n 1000 = true ∧ zin k 1000 = true ∧ pc' = nx ∧ als' = als ∧ ast' = .ref h.1 :: r ∧ h' = (h.1 + (1 + n.toNatClampNeg), h.2.1 + (n.toNatClampNeg + n.toNatClampNeg * k.toNatClampNeg), fun j => if j = h.1 then .inl (6, n.toNatClampNeg, .inr (.inr (fun i => if i < n.toNatClampNeg then some (h.1 + 1 + i) else none))) else if h.1 < j ∧ j < h.1 + 1 + n.toNatClampNeg then .inl (0, k.toNatClampNeg, .inl (fun _ => 0)) else h.2.2 j) := by
  unfold zmkM at hs
  split at hs
  · injection hs with hs
    injection hs with h1 h2
    injection h2 with h2 h3
    injection h3 with h3 h4
    injection h4 with h4 h5
    subst h2 h3 h4 h5
    simp only [Bool.and_eq_true] at h1
    exact ⟨_, _, _, rfl, h1.1, h1.2, rfl, rfl, rfl, rfl⟩
  · cases hs
theorem zv_ald {nx pc' : Nat} {als ast als' ast' : List Value} {h h' : zH} (hs : zald nx als ast h = .inl (true, pc', als', ast', h')) : ∃ i a r n f, ast = .int i :: .ref a :: r ∧ h.2.2 a = .inl (0, n, .inl f) ∧ zin i n = true ∧ pc' = nx ∧ als' = als ∧ ast' = .int (f i.toNatClampNeg) :: r ∧ h' = h := by
  unfold zald at hs
  split at hs
  · split at hs
    · rename_i n f e
      injection hs with hs
      injection hs with h1 h2
      injection h2 with h2 h3
      injection h3 with h3 h4
      injection h4 with h4 h5
      subst h2 h3 h4 h5
      exact ⟨_, _, _, n, f, rfl, e, h1, rfl, rfl, rfl, rfl⟩
    · cases hs
  · cases hs
theorem zv_bld {nx pc' : Nat} {als ast als' ast' : List Value} {h h' : zH} (hs : zbld nx als ast h = .inl (true, pc', als', ast', h')) : ∃ i a r t n f, ast = .int i :: .ref a :: r ∧ (t = 2 ∨ t = 3) ∧ h.2.2 a = .inl (t, n, .inl f) ∧ zin i n = true ∧ pc' = nx ∧ als' = als ∧ ast' = .int (f i.toNatClampNeg) :: r ∧ h' = h := by
  unfold zbld at hs
  split at hs
  · split at hs
    · rename_i n f e
      injection hs with hs
      injection hs with h1 h2
      injection h2 with h2 h3
      injection h3 with h3 h4
      injection h4 with h4 h5
      subst h2 h3 h4 h5
      exact ⟨_, _, _, 2, n, f, rfl, Or.inl rfl, e, h1, rfl, rfl, rfl, rfl⟩
    · rename_i n f e
      injection hs with hs
      injection hs with h1 h2
      injection h2 with h2 h3
      injection h3 with h3 h4
      injection h4 with h4 h5
      subst h2 h3 h4 h5
      exact ⟨_, _, _, 3, n, f, rfl, Or.inr rfl, e, h1, rfl, rfl, rfl, rfl⟩
    · cases hs
  · cases hs
theorem zv_lld {nx pc' : Nat} {als ast als' ast' : List Value} {h h' : zH} (hs : zlld nx als ast h = .inl (true, pc', als', ast', h')) : ∃ i a r n f, ast = .int i :: .ref a :: r ∧ h.2.2 a = .inl (1, n, .inr (.inl f)) ∧ zin i n = true ∧ pc' = nx ∧ als' = als ∧ ast' = .long (f i.toNatClampNeg) :: r ∧ h' = h := by
  unfold zlld at hs
  split at hs
  · split at hs
    · rename_i n f e
      injection hs with hs
      injection hs with h1 h2
      injection h2 with h2 h3
      injection h3 with h3 h4
      injection h4 with h4 h5
      subst h2 h3 h4 h5
      exact ⟨_, _, _, n, f, rfl, e, h1, rfl, rfl, rfl, rfl⟩
    · cases hs
  · cases hs
theorem zv_qld {nx pc' : Nat} {als ast als' ast' : List Value} {h h' : zH} (hs : zqld nx als ast h = .inl (true, pc', als', ast', h')) : ∃ i a r t n f, ast = .int i :: .ref a :: r ∧ h.2.2 a = .inl (t + 4, n, .inr (.inr f)) ∧ zin i n = true ∧ pc' = nx ∧ als' = als ∧ ast' = zrf (f i.toNatClampNeg) :: r ∧ h' = h := by
  unfold zqld at hs
  split at hs
  · split at hs
    · rename_i t n f e
      injection hs with hs
      injection hs with h1 h2
      injection h2 with h2 h3
      injection h3 with h3 h4
      injection h4 with h4 h5
      subst h2 h3 h4 h5
      exact ⟨_, _, _, t, n, f, rfl, e, h1, rfl, rfl, rfl, rfl⟩
    · cases hs
  · cases hs
theorem zv_ast {nx pc' : Nat} {als ast als' ast' : List Value} {h h' : zH} (hs : zast nx als ast h = .inl (true, pc', als', ast', h')) : ∃ x i a n f, ast = .int x :: .int i :: .ref a :: ast' ∧ h.2.2 a = .inl (0, n, .inl f) ∧ zin i n = true ∧ 2 ≤ a ∧ pc' = nx ∧ als' = als ∧ h' = zset h a (.inl (0, n, .inl (upd f i.toNatClampNeg x))) := by
  unfold zast at hs
  split at hs
  · split at hs
    · rename_i n f e
      injection hs with hs
      injection hs with h1 h2
      injection h2 with h2 h3
      injection h3 with h3 h4
      injection h4 with h4 h5
      subst h2 h3 h4 h5
      simp only [Bool.and_eq_true] at h1
      exact ⟨_, _, _, n, f, rfl, e, h1.1, Nat.le_of_ble_eq_true h1.2, rfl, rfl, rfl⟩
    · cases hs
  · cases hs
theorem zv_lst {nx pc' : Nat} {als ast als' ast' : List Value} {h h' : zH} (hs : zlst nx als ast h = .inl (true, pc', als', ast', h')) : ∃ x i a n f, ast = .long x :: .int i :: .ref a :: ast' ∧ h.2.2 a = .inl (1, n, .inr (.inl f)) ∧ zin i n = true ∧ 2 ≤ a ∧ pc' = nx ∧ als' = als ∧ h' = zset h a (.inl (1, n, .inr (.inl (vp_updL f i.toNatClampNeg x)))) := by
  unfold zlst at hs
  split at hs
  · split at hs
    · rename_i n f e
      injection hs with hs
      injection hs with h1 h2
      injection h2 with h2 h3
      injection h3 with h3 h4
      injection h4 with h4 h5
      subst h2 h3 h4 h5
      simp only [Bool.and_eq_true] at h1
      exact ⟨_, _, _, n, f, rfl, e, h1.1, Nat.le_of_ble_eq_true h1.2, rfl, rfl, rfl⟩
    · cases hs
  · cases hs
theorem zv_bst {nx pc' : Nat} {als ast als' ast' : List Value} {h h' : zH} (hs : zbst nx als ast h = .inl (true, pc', als', ast', h')) : ∃ x i a t ty n f, ast = .int x :: .int i :: .ref a :: ast' ∧ (t = 2 ∧ ty = .byte ∨ t = 3 ∧ ty = .boolean) ∧ h.2.2 a = .inl (t, n, .inl f) ∧ zin i n = true ∧ 2 ≤ a ∧ pc' = nx ∧ als' = als ∧ h' = zset h a (.inl (t, n, .inl (upd f i.toNatClampNeg (vp_nar ty x)))) := by
  unfold zbst at hs
  split at hs
  · split at hs
    · rename_i n f e
      injection hs with hs
      injection hs with h1 h2
      injection h2 with h2 h3
      injection h3 with h3 h4
      injection h4 with h4 h5
      subst h2 h3 h4 h5
      simp only [Bool.and_eq_true] at h1
      exact ⟨_, _, _, 2, .byte, n, f, rfl, Or.inl ⟨rfl, rfl⟩, e, h1.1, Nat.le_of_ble_eq_true h1.2, rfl, rfl, rfl⟩
    · rename_i n f e
      injection hs with hs
      injection hs with h1 h2
      injection h2 with h2 h3
      injection h3 with h3 h4
      injection h4 with h4 h5
      subst h2 h3 h4 h5
      simp only [Bool.and_eq_true] at h1
      exact ⟨_, _, _, 3, .boolean, n, f, rfl, Or.inr ⟨rfl, rfl⟩, e, h1.1, Nat.le_of_ble_eq_true h1.2, rfl, rfl, rfl⟩
    · cases hs
  · cases hs
theorem zv_qst {nx pc' : Nat} {als ast als' ast' : List Value} {h h' : zH} (hs : zqst nx als ast h = .inl (true, pc', als', ast', h')) : ∃ v i a t ci n f fs, ast = .ref v :: .int i :: .ref a :: ast' ∧ (t = 4 ∧ ci = 7 ∨ t = 5 ∧ ci = 6) ∧ h.2.2 a = .inl (t, n, .inr (.inr f)) ∧ h.2.2 v = .inr (ci, fs) ∧ zin i n = true ∧ 2 ≤ a ∧ pc' = nx ∧ als' = als ∧ h' = zset h a (.inl (t, n, .inr (.inr (va_up f i.toNatClampNeg (some v))))) := by
  unfold zqst at hs
  split at hs
  · split at hs
    · rename_i n f fs e1 e2
      injection hs with hs
      injection hs with h1 h2
      injection h2 with h2 h3
      injection h3 with h3 h4
      injection h4 with h4 h5
      subst h2 h3 h4 h5
      simp only [Bool.and_eq_true] at h1
      exact ⟨_, _, _, 4, 7, n, f, fs, rfl, Or.inl ⟨rfl, rfl⟩, e1, e2, h1.1, Nat.le_of_ble_eq_true h1.2, rfl, rfl, rfl⟩
    · rename_i n f fs e1 e2
      injection hs with hs
      injection hs with h1 h2
      injection h2 with h2 h3
      injection h3 with h3 h4
      injection h4 with h4 h5
      subst h2 h3 h4 h5
      simp only [Bool.and_eq_true] at h1
      exact ⟨_, _, _, 5, 6, n, f, fs, rfl, Or.inr ⟨rfl, rfl⟩, e1, e2, h1.1, Nat.le_of_ble_eq_true h1.2, rfl, rfl, rfl⟩
    · cases hs
  · cases hs
theorem zv_len {nx pc' : Nat} {als ast als' ast' : List Value} {h h' : zH} (hs : zlen nx als ast h = .inl (true, pc', als', ast', h')) : ∃ r t n f, ast = .ref 0 :: r ∧ h.2.2 0 = .inl (t, n, f) ∧ pc' = nx ∧ als' = als ∧ ast' = .int (Int32.ofNat n) :: r ∧ h' = h := by
  unfold zlen at hs
  split at hs
  · split at hs
    · rename_i t n f e
      cases hs
      exact ⟨_, t, n, f, rfl, e, rfl, rfl, rfl, rfl⟩
    · cases hs
  · cases hs
theorem zv_getf {ci k : Nat} {nx pc' : Nat} {als ast als' ast' : List Value} {h h' : zH} (hs : zgetf ci k nx als ast h = .inl (true, pc', als', ast', h')) : ∃ a r fs, ast = .ref a :: r ∧ h.2.2 a = .inr (ci, fs) ∧ k < fs.length ∧ pc' = nx ∧ als' = als ∧ ast' = fs.getD k .null :: r ∧ h' = h := by
  unfold zgetf at hs
  split at hs
  · split at hs
    · rename_i cj fs e
      injection hs with hs
      injection hs with h1 h2
      injection h2 with h2 h3
      injection h3 with h3 h4
      injection h4 with h4 h5
      subst h2 h3 h4 h5
      simp only [Bool.and_eq_true] at h1
      exact ⟨_, _, fs, rfl, by rw [e, Nat.eq_of_beq_eq_true h1.1], Nat.le_of_ble_eq_true h1.2, rfl, rfl, rfl, rfl⟩
    · cases hs
  · cases hs
theorem zv_putf {ci k : Nat} {nx pc' : Nat} {als ast als' ast' : List Value} {h h' : zH} (hs : zputf ci k nx als ast h = .inl (true, pc', als', ast', h')) : ∃ v a fs, ast = v :: .ref a :: ast' ∧ h.2.2 a = .inr (ci, fs) ∧ k < fs.length ∧ zfit (ztf ci k) v = true ∧ pc' = nx ∧ als' = als ∧ h' = zset h a (.inr (ci, fs.set k v)) := by
  unfold zputf at hs
  split at hs
  · split at hs
    · rename_i cj fs e
      injection hs with hs
      injection hs with h1 h2
      injection h2 with h2 h3
      injection h3 with h3 h4
      injection h4 with h4 h5
      subst h2 h3 h4 h5
      simp only [Bool.and_eq_true] at h1
      have e2 := Nat.eq_of_beq_eq_true h1.1.1
      subst e2
      exact ⟨_, _, fs, rfl, e, Nat.le_of_ble_eq_true h1.1.2, h1.2, rfl, rfl, rfl⟩
    · cases hs
  · cases hs
theorem zv_mkI {t : Nat} {nx pc' : Nat} {als ast als' ast' : List Value} {h h' : zH} (hs : zmkI t nx als ast h = .inl (true, pc', als', ast', h')) : ∃ n r, ast = .int n :: r ∧ zin n 1000 = true ∧ pc' = nx ∧ als' = als ∧ ast' = .ref h.1 :: r ∧ h' = znew h (.inl (t, n.toNatClampNeg, .inl (fun _ => 0))) n.toNatClampNeg := by
  unfold zmkI at hs
  split at hs
  · injection hs with hs
    injection hs with h1 h2
    injection h2 with h2 h3
    injection h3 with h3 h4
    injection h4 with h4 h5
    subst h2 h3 h4 h5
    exact ⟨_, _, rfl, h1, rfl, rfl, rfl, rfl⟩
  · cases hs
theorem zv_mkL  {nx pc' : Nat} {als ast als' ast' : List Value} {h h' : zH} (hs : zmkL nx als ast h = .inl (true, pc', als', ast', h')) : ∃ n r, ast = .int n :: r ∧ zin n 1000 = true ∧ pc' = nx ∧ als' = als ∧ ast' = .ref h.1 :: r ∧ h' = znew h (.inl (1, n.toNatClampNeg, .inr (.inl (fun _ => 0)))) n.toNatClampNeg := by
  unfold zmkL at hs
  split at hs
  · injection hs with hs
    injection hs with h1 h2
    injection h2 with h2 h3
    injection h3 with h3 h4
    injection h4 with h4 h5
    subst h2 h3 h4 h5
    exact ⟨_, _, rfl, h1, rfl, rfl, rfl, rfl⟩
  · cases hs
theorem zv_mkQ {t : Nat} {nx pc' : Nat} {als ast als' ast' : List Value} {h h' : zH} (hs : zmkQ t nx als ast h = .inl (true, pc', als', ast', h')) : ∃ n r, ast = .int n :: r ∧ zin n 1000 = true ∧ pc' = nx ∧ als' = als ∧ ast' = .ref h.1 :: r ∧ h' = znew h (.inl (t, n.toNatClampNeg, .inr (.inr (fun _ => none)))) n.toNatClampNeg := by
  unfold zmkQ at hs
  split at hs
  · injection hs with hs
    injection hs with h1 h2
    injection h2 with h2 h3
    injection h3 with h3 h4
    injection h4 with h4 h5
    subst h2 h3 h4 h5
    exact ⟨_, _, rfl, h1, rfl, rfl, rfl, rfl⟩
  · cases hs
theorem zv_cpy {nx pc' : Nat} {als ast als' ast' : List Value} {h h' : zH} (hs : zcpy nx als ast h = .inl (true, pc', als', ast', h')) : ∃ n dp b sp a n0 f n1 g, ast = .int n :: .int dp :: .ref b :: .int sp :: .ref a :: ast' ∧ h.2.2 a = .inl (0, n0, .inl f) ∧ h.2.2 b = .inl (0, n1, .inl g) ∧ 0 ≤ sp.toInt ∧ 0 ≤ dp.toInt ∧ 0 ≤ n.toInt ∧ sp.toNatClampNeg + n.toNatClampNeg ≤ n0 ∧ dp.toNatClampNeg + n.toNatClampNeg ≤ n1 ∧ 2 ≤ a ∧ 2 ≤ b ∧ ast'.length ≤ 4 ∧ pc' = nx ∧ als' = als ∧ h' = zset h b (.inl (0, n1, .inl (va_cpy f g sp.toNatClampNeg dp.toNatClampNeg n.toNatClampNeg))) := by
  unfold zcpy at hs
  split at hs
  · split at hs
    · rename_i n0 f n1 g e1 e2
      injection hs with hs
      injection hs with h1 h2
      injection h2 with h2 h3
      injection h3 with h3 h4
      injection h4 with h4 h5
      subst h2 h3 h4 h5
      simp only [Bool.and_eq_true, decide_eq_true_eq] at h1
      obtain ⟨⟨⟨⟨⟨⟨⟨q1, q2⟩, q3⟩, q4⟩, q5⟩, q6⟩, q7⟩, q8⟩ := h1
      exact ⟨_, _, _, _, _, n0, f, n1, g, rfl, e1, e2, q1, q2, q3, Nat.le_of_ble_eq_true q4, Nat.le_of_ble_eq_true q5, Nat.le_of_ble_eq_true q6, Nat.le_of_ble_eq_true q7, Nat.le_of_ble_eq_true q8, rfl, rfl, rfl⟩
    · cases hs
  · cases hs
theorem zv_tsw {d lo hi : Int} {offs : Array Int} {pc : Nat} {pc' : Nat} {als ast als' ast' : List Value} {h h' : zH} (hs : ztsw d lo hi offs pc als ast h = .inl (true, pc', als', ast', h')) : ∃ x o, ast = .int x :: ast' ∧ ztoff d lo hi offs x = some o ∧ (pc : Int) + o = (pc' : Int) ∧ als' = als ∧ h' = h := by
  unfold ztsw at hs
  split at hs
  · split at hs
    · rename_i o e
      injection hs with hs
      injection hs with h1 h2
      injection h2 with h2 h3
      injection h3 with h3 h4
      injection h4 with h4 h5
      subst h2 h3 h4 h5
      exact ⟨_, o, rfl, e, by rw [Int.toNat_of_nonneg (of_decide_eq_true h1)], rfl, rfl⟩
    · cases hs
  · cases hs
theorem zv_lsw {d : Int} {ps : Array (Int × Int)} {pc : Nat} {pc' : Nat} {als ast als' ast' : List Value} {h h' : zH} (hs : zlsw d ps pc als ast h = .inl (true, pc', als', ast', h')) : ∃ x, ast = .int x :: ast' ∧ (pc : Int) + Op.lookupswitch.offset ps.toList d x.toInt = (pc' : Int) ∧ als' = als ∧ h' = h := by
  unfold zlsw at hs
  split at hs
  · injection hs with hs
    injection hs with h1 h2
    injection h2 with h2 h3
    injection h3 with h3 h4
    injection h4 with h4 h5
    subst h2 h3 h4 h5
    exact ⟨_, rfl, by rw [Int.toNat_of_nonneg (of_decide_eq_true h1)], rfl, rfl⟩
  · cases hs
