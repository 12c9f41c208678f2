/-! ===== what the pure machine's steps are on the claim's machine ===== -/
def am_tr (cs : Nat → Nat) (base : Nat) : Value → Value
  | .ref a => .ref (base + a)
  | .retAddr c => .ref (cs c)
  | .int x => .int x
  | .long x => .long x
  | .float x => .float x
  | .double x => .double x
  | .null => .null
def am_tA (base : Nat) : vp_A → vp_A
  | (n, .inl f) => (n, .inl f)
  | (n, .inr (.inl f)) => (n, .inr (.inl f))
  | (n, .inr (.inr (.inl f))) => (n, .inr (.inr (.inl f)))
  | (n, .inr (.inr (.inr (.inl f)))) => (n, .inr (.inr (.inr (.inl f))))
  | (n, .inr (.inr (.inr (.inr f)))) => (n, .inr (.inr (.inr (.inr (fun i => (f i).map (fun x => base + x))))))
/-- where things are: the classes of arrays, the tables' addresses, where our cells begin -/
abbrev am_Z : Type := (Nat → ClassId) × (Nat → Nat) × Nat
def am_tO (Z : am_Z) : am_O → va_E
  | .inl (t, a) => .inl (Z.1 t, am_tA Z.2.2 a)
  | .inr (ci, fs) => .inr (ci, fs.map (am_tr Z.2.1 Z.2.2))
def am_ws (Z : am_Z) (G : List am_O) : va_W := G.mapIdx (fun i o => (Z.2.2 + i, am_tO Z o))
abbrev am_A (Z : am_Z) : Nat → Prop := fun q => Z.2.2 ≤ q
def am_R (D : va_G) (cl : List vw_C) (Z : am_Z) (M : am_M) (H : Heap) : Prop := va_P D cl (am_ws Z M.1) H ∧ H.size = Z.2.2 + M.1.length
theorem am_ws_get {Z : am_Z} {G : List am_O} {a : Nat} {o : am_O} (h : G[a]? = some o) : (am_ws Z G)[a]? = some (Z.2.2 + a, am_tO Z o) := by
  simp [am_ws, List.getElem?_mapIdx, h]
theorem am_ws_inv {Z : am_Z} {G : List am_O} {k : Nat} {q : Nat × va_E} (h : (am_ws Z G)[k]? = some q) : ∃ o, G[k]? = some o ∧ q = (Z.2.2 + k, am_tO Z o) := by
  simp only [am_ws, List.getElem?_mapIdx, Option.map_eq_some_iff] at h
  obtain ⟨o, h1, h2⟩ := h
  exact ⟨o, h1, h2.symm⟩
theorem am_D (Z : am_Z) (G : List am_O) : va_D (am_A Z) (am_ws Z G) := by
  refine ⟨fun i j p q hi hj h => ?_, fun k q hk => ?_⟩
  · obtain ⟨o, -, rfl⟩ := am_ws_inv hi
    obtain ⟨o', -, rfl⟩ := am_ws_inv hj
    have h : Z.2.2 + i = Z.2.2 + j := h
    omega
  · obtain ⟨o, -, rfl⟩ := am_ws_inv hk
    exact Nat.le_add_right _ _
theorem am_R.set {D : va_G} {cl : List vw_C} {Z : am_Z} {M : am_M} {H H1 : Heap} {a n : Nat} {o o0 : am_O} (h : am_R D cl Z M H) (h0 : M.1[a]? = some o0) (he : va_at D cl (Z.2.2 + a, am_tO Z o) H1) (z : H1.size = H.size) (oq : ∀ q : Nat, q ≠ Z.2.2 + a → H1[q]? = H[q]?) : am_R D cl Z (M.1.set a o, n) H1 := by
  have hl : a < M.1.length := (List.getElem?_eq_some_iff.mp h0).1
  refine ⟨fun k q hk => ?_, by rw [z, h.2, List.length_set]⟩
  obtain ⟨o1, h1, rfl⟩ := am_ws_inv hk
  by_cases hka : k = a
  · subst hka
    rw [List.getElem?_set_self hl] at h1
    cases h1
    exact he
  · rw [List.getElem?_set_ne (Ne.symm hka)] at h1
    have h1 : M.1[k]? = some o1 := h1
    exact (h.1 k _ (am_ws_get h1)).kept (oq _ (by show Z.2.2 + k ≠ _; omega))
theorem am_R.push {D : va_G} {cl : List vw_C} {Z : am_Z} {M : am_M} {H H1 : Heap} {n : Nat} {o : am_O} (h : am_R D cl Z M H) (he : va_at D cl (H.size, am_tO Z o) H1) (z : H1.size = H.size + 1) (oq : ∀ q : Nat, q < H.size → H1[q]? = H[q]?) : am_R D cl Z (M.1 ++ [o], n) H1 := by
  refine ⟨fun k q hk => ?_, by rw [z, h.2, List.length_append]; simp; omega⟩
  obtain ⟨o1, h1, rfl⟩ := am_ws_inv hk
  have h1 : (M.1 ++ [o])[k]? = some o1 := h1
  by_cases hkl : k < M.1.length
  · rw [List.getElem?_append_left hkl] at h1
    exact (h.1 k _ (am_ws_get h1)).kept (oq _ (by show Z.2.2 + k < _; rw [h.2]; omega))
  · rw [List.getElem?_append_right (by omega)] at h1
    have hz : k - M.1.length < 1 := (List.getElem?_eq_some_iff.mp h1).1
    have hk0 : k = M.1.length := by omega
    subst hk0
    rw [Nat.sub_self] at h1
    cases h1
    rw [h.2] at he
    exact he
theorem am_cat (cs : Nat → Nat) (base : Nat) (v : Value) : (am_tr cs base v).category = v.category := by cases v <;> rfl
theorem am_sumT (cs : Nat → Nat) (base : Nat) (st : List Value) : ((st.map (am_tr cs base)).map fun v => v.category).sum = am_sum st := by
  rw [List.map_map]
  unfold am_sum
  congr 1
  apply List.map_congr_left
  intro v _
  exact am_cat cs base v
/-- the locals as the machine has them -/
def am_lt (Z : am_Z) (lv : am_L) : am_L := lv.map (fun q => (q.1, am_tr Z.2.1 Z.2.2 q.2))
theorem am_lkm {lv : am_L} {i : Nat} {v : Value} (h : am_lk lv i = some v) : (i, v) ∈ lv := by
  induction lv with
  | nil => cases h
  | cons q r ih =>
    unfold am_lk at h
    by_cases hq : q.1 = i
    · rw [if_pos hq] at h
      cases h
      subst hq
      exact List.mem_cons_self
    · rw [if_neg hq] at h
      exact List.mem_cons_of_mem _ (ih h)
theorem am_lat {Z : am_Z} {lv : am_L} {ls : Array Slot} {nL i : Nat} {v : Value} (hl : lv_has ls nL (am_lt Z lv)) (h : am_lk lv i = some v) : ls[i]? = some (.val (am_tr Z.2.1 Z.2.2 v)) :=
  hl.2.2 (i, am_tr Z.2.1 Z.2.2 v) (List.mem_map.mpr ⟨(i, v), am_lkm h, rfl⟩)
theorem am_ltf (Z : am_Z) (lv : am_L) (f : Nat → Value → Bool) (hf : ∀ n v, f n (am_tr Z.2.1 Z.2.2 v) = f n v) : (am_lt Z lv).filter (fun q => f q.1 q.2) = am_lt Z (lv.filter (fun q => f q.1 q.2)) := by
  unfold am_lt
  rw [List.filter_map]
  congr 1
  apply List.filter_congr
  intro q _
  exact hf q.1 q.2
theorem am_lt1 (Z : am_Z) (lv : am_L) (i : Nat) (v : Value) : (i, am_tr Z.2.1 Z.2.2 v) :: (am_lt Z lv).filter (fun q => !(q.1 == i) && !(q.1 + 1 == i && q.2.category == 2)) = am_lt Z (am_s1 lv i v) := by
  have h := am_ltf Z lv (fun n v => !(n == i) && !(n + 1 == i && v.category == 2)) (fun n v => by simp only [am_cat])
  rw [h]
  rfl
theorem am_lt2 (Z : am_Z) (lv : am_L) (i : Nat) (v : Value) : (i, am_tr Z.2.1 Z.2.2 v) :: (am_lt Z lv).filter (fun q => !(q.1 == i) && (!(q.1 == i + 1) && !(q.1 + 1 == i && q.2.category == 2))) = am_lt Z (am_s2 lv i v) := by
  have h := am_ltf Z lv (fun n v => !(n == i) && (!(n == i + 1) && !(n + 1 == i && v.category == 2))) (fun n v => by simp only [am_cat])
  rw [h]
  rfl
theorem am_ltA (Z : am_Z) (vs : List Value) : ∀ i, lv_args i (vs.map (am_tr Z.2.1 Z.2.2)) = am_lt Z (lv_args i vs) := by
  induction vs with
  | nil => intro i; rfl
  | cons v r ih =>
    intro i
    show (i, am_tr _ _ v) :: lv_args (if (am_tr Z.2.1 Z.2.2 v).category = 2 then i + 2 else i + 1) _ = _
    rw [am_cat, ih]
    rfl
/-- the program's names: classes, methods, codes, frames and locals of a method, the kit's classes, words, words of nests, array types, statics -/
abbrev am_Nm : Type := (Nat → String) × (Nat → MethodName) × (Nat → ByteArray) × (Nat → Nat) × (Nat → Nat) × List vw_C × List Cond × List Cond × List FieldType × List (String × String × String)
def am_cn (B : am_Nm) := B.1
def am_y (B : am_Nm) := B.2.1
def am_cc (B : am_Nm) := B.2.2.1
def am_rF (B : am_Nm) := B.2.2.2.1
def am_rL (B : am_Nm) := B.2.2.2.2.1
def am_kl (B : am_Nm) := B.2.2.2.2.2.1
def am_W (B : am_Nm) := B.2.2.2.2.2.2.1
def am_N (B : am_Nm) := B.2.2.2.2.2.2.2.1
def am_T (B : am_Nm) := B.2.2.2.2.2.2.2.2.1
def am_S (B : am_Nm) := B.2.2.2.2.2.2.2.2.2
def am_tys (B : am_Nm) (Z : am_Z) : List (ClassId × FieldType) := (am_T B).mapIdx (fun i t => (Z.1 i, t))
theorem am_tyg {B : am_Nm} {Z : am_Z} {t : Nat} {ty : FieldType} (h : (am_T B)[t]? = some ty) : (am_tys B Z)[t]? = some (Z.1 t, ty) := by
  simp [am_tys, List.getElem?_mapIdx, h]
/-- the tables' facts at a method's entry -/
def am_Kc (P : am_Pg) (B : am_Nm) (Z : am_Z) (U : State) (H : Heap) : Prop :=
  (∀ c n f, am_cst P c = some (n, f) → Z.2.1 c < Z.2.2 ∧ Z.2.1 c < H.size ∧ va_X (Z.2.1 c) n f U H ∧ (c ≠ 0 → ∃ cell : Cell, H[Z.2.1 c]? = some cell ∧ U.vm.findClass "[I" = some cell.cls)) ∧
  ∀ k q, (am_S B)[k]? = some q → va_Z q.1 q.2.1 q.2.2 (.ref (Z.2.1 (k + 1))) (am_A Z) U H
theorem am_Kc.moved {P : am_Pg} {B : am_Nm} {Z : am_Z} {u U : State} {H : Heap} (hvm : u.vm.Alike U.vm) (h : am_Kc P B Z u H) : am_Kc P B Z U H := by
  refine ⟨fun c n f hc => ?_, fun k q hq => (h.2 k q hq).moved hvm⟩
  obtain ⟨h1, h2, h3, h4⟩ := h.1 c n f hc
  refine ⟨h1, h2, h3.moved hvm, fun hc0 => ?_⟩
  obtain ⟨cell, h5, h6⟩ := h4 hc0
  exact ⟨cell, h5, by rw [hvm.findClass]; exact h6⟩
theorem am_Kc.kept {P : am_Pg} {B : am_Nm} {Z : am_Z} {U : State} {H H1 : Heap} (h : am_Kc P B Z U H) (hz : H.size ≤ H1.size) (hq : ∀ a : Nat, a < H.size → ¬ am_A Z a → H1[a]? = H[a]?) : am_Kc P B Z U H1 := by
  refine ⟨fun c n f hc => ?_, fun k q hk => (h.2 k q hk).kept hq⟩
  obtain ⟨h1, h2, h3, h4⟩ := h.1 c n f hc
  have e : H1[Z.2.1 c]? = H[Z.2.1 c]? := hq _ h2 (Nat.not_le.mpr h1)
  refine ⟨h1, Nat.lt_of_lt_of_le h2 hz, h3.kept e, fun hc0 => ?_⟩
  obtain ⟨cell, h5, h6⟩ := h4 hc0
  exact ⟨cell, by rw [e]; exact h5, h6⟩
def am_ln : Instr → Nat
  | .bipush _ => 2
  | .sipush _ => 3
  | .ldc _ => 2
  | .ldc_w _ => 3
  | .ldc2_w _ => 3
  | .iload _ => 2
  | .lload _ => 2
  | .aload _ => 2
  | .istore _ => 2
  | .lstore _ => 2
  | .astore _ => 2
  | .iinc _ _ => 3
  | .ifCond _ _ => 3
  | .if_icmp _ _ => 3
  | .ifnonnull _ => 3
  | .ifnull _ => 3
  | .goto _ => 3
  | .tableswitch _ _ _ _ => 0
  | .getfield _ => 3
  | .putfield _ => 3
  | .getstatic _ => 3
  | .new _ => 3
  | .newarray _ => 2
  | .anewarray _ => 3
  | .checkcast _ => 3
  | .invokespecial _ => 3
  | .invokestatic _ => 3
  | .invokevirtual _ => 3
  | _ => 1
/-- the program is what the tables say: code; classes; fields; statics; constants; new; arrays; anewarray, components; casts; natives; calls; words -/
def am_G1 (P : am_Pg) (B : am_Nm) : Prop := ∀ mi pc ins, am_code P mi pc = some ins → ∃ len, decode (am_cc B mi) pc = .ok (ins, len) ∧ (am_ln ins = 0 ∨ len = am_ln ins)
def am_G2 (P : am_Pg) (B : am_Nm) : Prop := ∀ (ci : Nat) (r : vw_C), (am_kl B)[ci]? = some r → am_cn B ci = r.1 ∧ (∀ w ∈ u_ws r.1 r.2.1 r.2.2, w ∈ am_W B) ∧ (∀ k, k < r.2.2 → parseFieldDescriptor (r.2.1 k).2.2.1 = some (am_fty P ci k) ∧ (r.2.1 k).2.2.2 = am_fin P ci k ∧ (r.2.1 k).1 = r.1) ∧ ∀ a, a < r.2.2 → ∀ b, b < r.2.2 → a ≠ b → (r.2.1 a).2.1 ≠ (r.2.1 b).2.1
def am_G3 (P : am_Pg) (B : am_Nm) : Prop := ∀ own i ci k, am_fld P own i = some (ci, k) → ∃ r : vw_C, (am_kl B)[ci]? = some r ∧ k < r.2.2 ∧ (Cond.fieldLink (am_cn B own) i r.1 (r.2.1 k).2.1 (r.2.1 k).2.2.1 ∈ am_W B ∨ (own ≠ ci ∧ ∃ host, Cond.fieldLinkNest (am_cn B own) i r.1 (r.2.1 k).2.1 (r.2.1 k).2.2.1 host ∈ am_N B))
def am_G4 (P : am_Pg) (B : am_Nm) : Prop := ∀ own i c, am_sta P own i = some c → ∃ k q, c = k + 1 ∧ (am_S B)[k]? = some q ∧ (Cond.fieldLink (am_cn B own) i q.1 q.2.1 q.2.2 ∈ am_W B ∨ ∃ host, Cond.fieldLinkNest (am_cn B own) i q.1 q.2.1 q.2.2 host ∈ am_N B)
def am_G5 (P : am_Pg) (B : am_Nm) : Prop := ∀ own i v, am_con P own i = some v → match v with
  | .int x => Cond.constant (am_cn B own) i x ∈ am_W B
  | .long x => Cond.constantLong (am_cn B own) i x ∈ am_W B
  | .float x => Cond.constantFloat (am_cn B own) i x ∈ am_W B
  | .double x => Cond.constantDouble (am_cn B own) i x ∈ am_W B
  | _ => True
def am_G6 (P : am_Pg) (B : am_Nm) : Prop := ∀ own i ci fs, am_new P own i = some (ci, fs) → ∃ r : vw_C, (am_kl B)[ci]? = some r ∧ Cond.classLink (am_cn B own) i r.1 ∈ am_W B ∧ Cond.instantiable r.1 r.2.2 ∈ am_W B ∧ Cond.initialized r.1 ∈ am_W B ∧ fs.length = r.2.2 ∧ ∀ j, j < r.2.2 → defaultValue (am_fty P ci j) = vp_V fs j
def am_G7 (B : am_Nm) : Prop := Cond.arrayClass .int ∈ am_W B ∧ Cond.arrayClass .long ∈ am_W B ∧ (am_T B)[0]? = some .int ∧ (am_T B)[1]? = some .long
def am_G8 (P : am_Pg) (B : am_Nm) : Prop := (∀ own i t, am_anw P own i = some t → 2 ≤ t ∧ t < 5 ∧ ∃ r : vw_C, (am_kl B)[am_elt P t]? = some r ∧ (am_T B)[t]? = some (.object r.1) ∧ Cond.classLink (am_cn B own) i r.1 ∈ am_W B ∧ Cond.arrayOver (.object r.1) ∈ am_N B) ∧ ∀ t, 2 ≤ t → t < 5 → ∃ r : vw_C, (am_kl B)[am_elt P t]? = some r ∧ (am_T B)[t]? = some (.object r.1)
def am_G9 (P : am_Pg) (B : am_Nm) : Prop := ∀ mi pc i, am_code P mi pc = some (.checkcast i) → Cond.classLink (am_cn B (am_own P mi)) i "[I" ∈ am_W B
def am_Ga (P : am_Pg) (B : am_Nm) : Prop := ∀ mi i k, am_nat P mi i = some k → 1 ≤ am_rF B mi ∧ 40 ≤ am_rL B mi ∧ (match k with
  | 0 => Cond.methodLink (am_cn B (am_own P mi)) i objectInit ∈ am_W B ∧ Cond.instanceMethod objectInit ∈ am_W B ∧ Cond.code objectInit ⟨#[0xb1]⟩ 1 none ∈ am_W B
  | 1 => Cond.methodLink (am_cn B (am_own P mi)) i arraycopyName ∈ am_W B ∧ Cond.native arraycopyName ∈ am_W B ∧ Cond.static arraycopyName ∈ am_W B ∧ Cond.initialized "java/lang/System" ∈ am_W B
  | 2 => Cond.methodLink (am_cn B (am_own P mi)) i ⟨"[I", "clone", "()Ljava/lang/Object;"⟩ ∈ am_W B ∧ Cond.sameMethod "[I" "java/lang/Object" "clone" "()Ljava/lang/Object;" ∈ am_W B ∧ Cond.native ⟨"java/lang/Object", "clone", "()Ljava/lang/Object;"⟩ ∈ am_W B ∧ Cond.instanceMethod ⟨"java/lang/Object", "clone", "()Ljava/lang/Object;"⟩ ∈ am_W B ∧ Cond.selects "[I" ⟨"[I", "clone", "()Ljava/lang/Object;"⟩ ⟨"java/lang/Object", "clone", "()Ljava/lang/Object;"⟩ ∈ am_W B ∧ Cond.castable "[I" "java/lang/Cloneable" ∈ am_N B
  | 3 => Cond.methodLink (am_cn B (am_own P mi)) i ⟨"java/lang/Double", "doubleToRawLongBits", "(D)J"⟩ ∈ am_W B ∧ Cond.native ⟨"java/lang/Double", "doubleToRawLongBits", "(D)J"⟩ ∈ am_W B ∧ Cond.static ⟨"java/lang/Double", "doubleToRawLongBits", "(D)J"⟩ ∈ am_W B ∧ Cond.initialized "java/lang/Double" ∈ am_W B
  | 4 => Cond.methodLink (am_cn B (am_own P mi)) i ⟨"java/lang/Float", "floatToRawIntBits", "(F)I"⟩ ∈ am_W B ∧ Cond.native ⟨"java/lang/Float", "floatToRawIntBits", "(F)I"⟩ ∈ am_W B ∧ Cond.static ⟨"java/lang/Float", "floatToRawIntBits", "(F)I"⟩ ∈ am_W B ∧ Cond.initialized "java/lang/Float" ∈ am_W B
  | _ => False)
def am_Gb (P : am_Pg) (B : am_Nm) : Prop := ∀ mi i kd mj n, am_cal P mi i = some (kd, mj, n) → am_rF B mj + 1 ≤ am_rF B mi ∧ 8 + (am_mxl P mj + 11) + am_rL B mj ≤ am_rL B mi ∧ Cond.code (am_y B mj) (am_cc B mj) (am_mxl P mj) (am_ret P mj) ∈ am_W B ∧ Cond.initialized (am_y B mj).cls ∈ am_W B ∧ (am_y B mj).cls = am_cn B (am_own P mj) ∧ plainFor (am_y B mj) = true ∧
  ((am_y B mj).cls ≠ "java/lang/invoke/MethodHandle" ∧ (am_y B mj).cls ≠ "java/lang/invoke/VarHandle" ∧ (parseMethodDescriptor (am_y B mj).desc).map (fun d => d.parameters.length) = some (if kd = 0 then n else n - 1)) ∧
  (Cond.methodLink (am_cn B (am_own P mi)) i (am_y B mj) ∈ am_W B ∨ ∃ host, Cond.methodLinkNest (am_cn B (am_own P mi)) i (am_y B mj) host ∈ am_N B) ∧
  (kd = 0 → Cond.static (am_y B mj) ∈ am_W B) ∧ (kd = 1 → 0 < n ∧ Cond.instanceMethod (am_y B mj) ∈ am_W B ∧ Cond.selects (am_y B mj).cls (am_y B mj) (am_y B mj) ∈ am_W B ∧ ∃ r : vw_C, (am_kl B)[am_own P mj]? = some r) ∧ (kd = 2 → 0 < n ∧ (am_y B mj).name = "<init>" ∧ Cond.instanceMethod (am_y B mj) ∈ am_W B ∧ am_ret P mj = none)
/-- the words of nests, and of casts -/
def am_nw_ : Cond → Bool
  | .fieldLinkNest _ _ _ _ _ _ => true
  | .methodLinkNest _ _ _ _ => true
  | .castable _ _ => true
  | .arrayOver (.object _) => true
  | _ => false
def am_Gc (P : am_Pg) (B : am_Nm) : Prop := (∀ w ∈ am_W B, goodWord w = true) ∧ (∀ w ∈ am_N B, am_nw_ w = true) ∧ ∀ mj, am_ini P mj = true → (am_y B mj).name = "<init>"
def am_Gd (P : am_Pg) (B : am_Nm) : Prop := am_G1 P B ∧ am_G2 P B ∧ am_G3 P B ∧ am_G4 P B ∧ am_G5 P B ∧ am_G6 P B ∧ am_G7 B ∧ am_G8 P B ∧ am_G9 P B ∧ am_Ga P B ∧ am_Gb P B ∧ am_Gc P B
/-- what holds at a method's entry -/
def am_X (P : am_Pg) (B : am_Nm) (D : va_G) (Z : am_Z) (p : Program) (R : Room) (s : State) (m : MethodId) (args : Array Value) (meth : Method) (c : Code) (mi : Nat) : Prop :=
  p.tables.exec = Jvm.exec ∧ c.code = am_cc B mi ∧ c.maxLocals = am_mxl P mi ∧ meth.sig.returnType = am_ret P mi ∧ meth.locks = false ∧ s.vm.findClass (am_cn B (am_own P mi)) = some m.cls ∧ (am_ini P mi = true → meth.name = "<init>") ∧
  (∀ w ∈ am_W B, w.before args s = true) ∧ (∀ w ∈ am_N B, va_Nw w s) ∧ va_K D (am_kl B) (am_tys B Z) s ∧ am_Kc P B Z s s.heap ∧ Z.2.2 ≤ s.heap.size ∧ am_rF B mi ≤ R.frames ∧ am_rL B mi ≤ R.locals
