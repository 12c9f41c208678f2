/-! ===== a step of the pure machine is a step of the claim's machine ===== -/
section AMV
variable {p : Program} {l : Launch} {e : Env} {R : Room} {s : State} {m : MethodId} {args : Array Value} {below : List Frame} {meth : Method} {c : Code} {Q : State → Prop}
variable {P : am_Pg} {B : am_Nm} {D : va_G} {Z : am_Z} {mi : Nat} {k0 n0 : Nat} {pc pc' len : Nat} {lv lv' : am_L} {st st' : List Value} {M M' : am_M}
/-- the claim's machine, wherever it holds this picture, comes to Q -/
def am_V (p : Program) (l : Launch) (e : Env) (R : Room) (s : State) (m : MethodId) (args : Array Value) (below : List Frame) (meth : Method) (c : Code) (Q : State → Prop) (P : am_Pg) (B : am_Nm) (D : va_G) (Z : am_Z) (mi k0 n0 : Nat) (pc : Nat) (lv : am_L) (st : List Value) (M : am_M) : Prop :=
  ∀ (H : Heap) (locs : List Loc) (ls : Array Slot), am_R D (am_kl B) Z M H → va_S (am_A Z) s.heap H locs → lv_has ls (am_mxl P mi) (am_lt Z lv) → k0 ≤ M.1.length → n0 ≤ M.2 →
    W p l e R s m args below meth c H locs (M.1.length - k0) (M.2 - n0) Q (F0 m pc ls (st.map (am_tr Z.2.1 Z.2.2)))
theorem am_pu_inv {n : Nat} {o : Option Value} (h : am_pu n pc lv st M o = some (pc', lv', st', M')) : ∃ v, o = some v ∧ pc' = pc + n ∧ lv' = lv ∧ st' = v :: st ∧ M' = M := by
  unfold am_pu at h
  cases o with
  | none => cases h
  | some v => cases h; exact ⟨v, rfl, rfl, rfl, rfl, rfl⟩
theorem am_2_inv {f : Value → Value → Option Value} (h : am_2 pc lv st M f = some (pc', lv', st', M')) : ∃ x y r v, st = y :: x :: r ∧ f x y = some v ∧ pc' = pc + 1 ∧ lv' = lv ∧ st' = v :: r ∧ M' = M := by
  unfold am_2 at h
  split at h
  · rename_i y x r
    split at h
    · rename_i v hv
      cases h
      exact ⟨x, y, r, v, rfl, hv, rfl, rfl, rfl, rfl⟩
    · cases h
  · cases h
theorem am_1_inv {f : Value → Option Value} (h : am_1 pc lv st M f = some (pc', lv', st', M')) : ∃ x r v, st = x :: r ∧ f x = some v ∧ pc' = pc + 1 ∧ lv' = lv ∧ st' = v :: r ∧ M' = M := by
  unfold am_1 at h
  split at h
  · rename_i x r
    split at h
    · rename_i v hv
      cases h
      exact ⟨x, r, v, rfl, hv, rfl, rfl, rfl, rfl⟩
    · cases h
  · cases h
theorem am_fI_inv {g : Int32 → Int32 → Int32} {x y v : Value} (h : am_fI g x y = some v) : ∃ a b, x = .int a ∧ y = .int b ∧ v = .int (g a b) := by
  unfold am_fI at h
  split at h
  · cases h; exact ⟨_, _, rfl, rfl, rfl⟩
  · cases h
theorem am_fID_inv {g : Int32 → Int32 → Int32} {x y v : Value} (h : am_fID g x y = some v) : ∃ a b, x = .int a ∧ y = .int b ∧ ¬ b = 0 ∧ v = .int (g a b) := by
  unfold am_fID at h
  split at h
  · rename_i a b
    by_cases hb : b = 0
    · rw [if_pos hb] at h; cases h
    · rw [if_neg hb] at h; cases h; exact ⟨_, _, rfl, rfl, hb, rfl⟩
  · cases h
theorem am_fL_inv {g : Int64 → Int64 → Int64} {x y v : Value} (h : am_fL g x y = some v) : ∃ a b, x = .long a ∧ y = .long b ∧ v = .long (g a b) := by
  unfold am_fL at h
  split at h
  · cases h; exact ⟨_, _, rfl, rfl, rfl⟩
  · cases h
theorem am_fLD_inv {g : Int64 → Int64 → Int64} {x y v : Value} (h : am_fLD g x y = some v) : ∃ a b, x = .long a ∧ y = .long b ∧ ¬ b = 0 ∧ v = .long (g a b) := by
  unfold am_fLD at h
  split at h
  · rename_i a b
    by_cases hb : b = 0
    · rw [if_pos hb] at h; cases h
    · rw [if_neg hb] at h; cases h; exact ⟨_, _, rfl, rfl, hb, rfl⟩
  · cases h
theorem am_fLI_inv {g : Int64 → Int32 → Int64} {x y v : Value} (h : am_fLI g x y = some v) : ∃ a b, x = .long a ∧ y = .int b ∧ v = .long (g a b) := by
  unfold am_fLI at h
  split at h
  · cases h; exact ⟨_, _, rfl, rfl, rfl⟩
  · cases h
theorem am_fF_inv {g : UInt32 → UInt32 → UInt32} {x y v : Value} (h : am_fF g x y = some v) : ∃ a b, x = .float a ∧ y = .float b ∧ vf_n32 (g a b) ∧ v = .float (g a b) := by
  unfold am_fF at h
  split at h
  · rename_i a b
    by_cases hb : (g a b) &&& 0x7fffffff ≤ 0x7f800000
    · rw [if_pos hb] at h; cases h; exact ⟨_, _, rfl, rfl, hb, rfl⟩
    · rw [if_neg hb] at h; cases h
  · cases h
theorem am_fD_inv {g : UInt64 → UInt64 → UInt64} {x y v : Value} (h : am_fD g x y = some v) : ∃ a b, x = .double a ∧ y = .double b ∧ vf_n64 (g a b) ∧ v = .double (g a b) := by
  unfold am_fD at h
  split at h
  · rename_i a b
    by_cases hb : (g a b) &&& 0x7fffffffffffffff ≤ 0x7ff0000000000000
    · rw [if_pos hb] at h; cases h; exact ⟨_, _, rfl, rfl, hb, rfl⟩
    · rw [if_neg hb] at h; cases h
  · cases h
theorem am_tg_inv {off : Int} {t : Nat} (h : am_tg pc off = some t) : (pc : Int) + off = (t : Int) := by
  unfold am_tg at h
  by_cases hc : 0 ≤ (pc : Int) + off
  · rw [if_pos hc] at h
    cases h
    omega
  · rw [if_neg hc] at h; cases h
theorem am_in_inv {i : Int32} {n : Nat} (h : am_in i n = true) : vp_in i n := by
  simp only [am_in, Bool.and_eq_true, Bool.not_eq_true', decide_eq_false_iff_not, decide_eq_true_eq] at h
  exact fun q => q.elim h.1 (fun q => by omega)
theorem am_ld_int {o : Option Value} {v : Value} (h : am_ld 0 o = some v) : ∃ x, v = .int x ∧ o = some (.int x) := by
  unfold am_ld at h
  split at h <;> first | (cases h; exact ⟨_, rfl, rfl⟩) | (rename_i q; cases q; done) | (rename_i q _; cases q; done) | (cases h; done) | (rename_i q; exact absurd q (by decide))
theorem am_ld_long {o : Option Value} {v : Value} (h : am_ld 1 o = some v) : ∃ x, v = .long x ∧ o = some (.long x) := by
  unfold am_ld at h
  split at h <;> first | (cases h; exact ⟨_, rfl, rfl⟩) | (rename_i q; cases q; done) | (rename_i q _; cases q; done) | (cases h; done) | (rename_i q; exact absurd q (by decide))
theorem am_ld_float {o : Option Value} {v : Value} (h : am_ld 2 o = some v) : ∃ x, v = .float x ∧ o = some (.float x) := by
  unfold am_ld at h
  split at h <;> first | (cases h; exact ⟨_, rfl, rfl⟩) | (rename_i q; cases q; done) | (rename_i q _; cases q; done) | (cases h; done) | (rename_i q; exact absurd q (by decide))
theorem am_ld_double {o : Option Value} {v : Value} (h : am_ld 3 o = some v) : ∃ x, v = .double x ∧ o = some (.double x) := by
  unfold am_ld at h
  split at h <;> first | (cases h; exact ⟨_, rfl, rfl⟩) | (rename_i q; cases q; done) | (rename_i q _; cases q; done) | (cases h; done) | (rename_i q; exact absurd q (by decide))
theorem am_ld_ref (Z : am_Z) {o : Option Value} {v : Value} (h : am_ld 4 o = some v) : o = some v ∧ v.category = 1 ∧ ∃ a, am_tr Z.2.1 Z.2.2 v = .ref a := by
  unfold am_ld at h
  split at h <;> first | (cases h; exact ⟨rfl, rfl, _, rfl⟩) | (rename_i q; cases q; done) | (rename_i q _; cases q; done) | (cases h; done) | (rename_i q; exact absurd q (by decide))
theorem am_so_inv {w n i nL : Nat} (h : am_so w n pc i nL lv st M = some (pc', lv', st', M')) : ∃ v r, st = v :: r ∧ (∃ u, am_ld w (some v) = some u) ∧ pc' = pc + n ∧ st' = r ∧ M' = M ∧ ((v.category = 2 ∧ i + 1 < nL ∧ lv' = am_s2 lv i v) ∨ (¬ v.category = 2 ∧ i < nL ∧ lv' = am_s1 lv i v)) := by
  unfold am_so at h
  split at h
  · rename_i v r
    split at h
    · cases h
    · rename_i u hu
      by_cases hc : v.category = 2
      · rw [if_pos hc] at h
        by_cases hi : i + 1 < nL
        · rw [if_pos hi] at h
          cases h
          exact ⟨v, _, rfl, ⟨u, hu⟩, rfl, rfl, rfl, Or.inl ⟨hc, hi, rfl⟩⟩
        · rw [if_neg hi] at h; cases h
      · rw [if_neg hc] at h
        by_cases hi : i < nL
        · rw [if_pos hi] at h
          cases h
          exact ⟨v, _, rfl, ⟨u, hu⟩, rfl, rfl, rfl, Or.inr ⟨hc, hi, rfl⟩⟩
        · rw [if_neg hi] at h; cases h
  · cases h
theorem am_br_inv {b : Bool} {off : Int} {r : List Value} (h : am_br b pc off lv r M = some (pc', lv', st', M')) : ∃ t : Nat, (pc : Int) + off = (t : Int) ∧ lv' = lv ∧ st' = r ∧ M' = M ∧ ((b = true ∧ pc' = t) ∨ (b = false ∧ pc' = pc + 3)) := by
  unfold am_br at h
  split at h
  · rename_i t ht
    cases b with
    | true => cases h; exact ⟨_, am_tg_inv ht, rfl, rfl, rfl, Or.inl ⟨rfl, rfl⟩⟩
    | false => cases h; exact ⟨t, am_tg_inv ht, rfl, rfl, rfl, Or.inr ⟨rfl, rfl⟩⟩
  · cases h
theorem am_go_inv {off : Int} {r : List Value} (h : am_go pc off lv r M = some (pc', lv', st', M')) : (pc : Int) + off = (pc' : Int) ∧ lv' = lv ∧ st' = r ∧ M' = M := by
  unfold am_go at h
  split at h
  · rename_i t ht
    cases h
    exact ⟨am_tg_inv ht, rfl, rfl, rfl⟩
  · cases h
theorem am_t_if {op : ClassFile.Cond} {off : Int} (hC : am_X P B D Z p R s m args meth c mi) (hdg : decode (am_cc B mi) pc = .ok (.ifCond op off, 3)) (h : am_st P mi (.ifCond op off) pc lv st M = some (pc', lv', st', M'))
    (hV : am_V p l e R s m args below meth c Q P B D Z mi k0 n0 pc' lv' st' M') : am_V p l e R s m args below meth c Q P B D Z mi k0 n0 pc lv st M := by
  obtain ⟨hx, hb, -⟩ := hC
  unfold am_st at h
  dsimp only at h
  split at h
  · rename_i x r
    obtain ⟨t, ht, rfl, rfl, rfl, hcs⟩ := am_br_inv h
    intro H locs ls hR hS hl hk hn
    have K := hV H locs ls hR hS hl hk hn
    cases op with
    | eq => exact lv_if_eq hx hb hdg ht (fun q => by rcases hcs with ⟨h1, rfl⟩ | ⟨h1, rfl⟩; exact K; simp [am_c1, q] at h1) (fun q => by rcases hcs with ⟨h1, rfl⟩ | ⟨h1, rfl⟩; simp [am_c1, q] at h1; exact K)
    | ne => exact lv_if_ne hx hb hdg ht (fun q => by rcases hcs with ⟨h1, rfl⟩ | ⟨h1, rfl⟩; exact K; simp [am_c1, q] at h1) (fun q => by rcases hcs with ⟨h1, rfl⟩ | ⟨h1, rfl⟩; simp [am_c1, q] at h1; exact K)
    | lt => exact lv_if_lt hx hb hdg ht (fun q => by rcases hcs with ⟨h1, rfl⟩ | ⟨h1, rfl⟩; exact K; simp [am_c1, q] at h1) (fun q => by rcases hcs with ⟨h1, rfl⟩ | ⟨h1, rfl⟩; simp [am_c1, q] at h1; exact K)
    | ge => exact lv_if_ge hx hb hdg ht (fun q => by rcases hcs with ⟨h1, rfl⟩ | ⟨h1, rfl⟩; exact K; simp [am_c1, q] at h1) (fun q => by rcases hcs with ⟨h1, rfl⟩ | ⟨h1, rfl⟩; simp [am_c1, q] at h1; exact K)
    | gt => exact lv_if_gt hx hb hdg ht (fun q => by rcases hcs with ⟨h1, rfl⟩ | ⟨h1, rfl⟩; exact K; simp [am_c1, q] at h1) (fun q => by rcases hcs with ⟨h1, rfl⟩ | ⟨h1, rfl⟩; simp [am_c1, q] at h1; exact K)
    | le => exact lv_if_le hx hb hdg ht (fun q => by rcases hcs with ⟨h1, rfl⟩ | ⟨h1, rfl⟩; exact K; simp [am_c1, q] at h1) (fun q => by rcases hcs with ⟨h1, rfl⟩ | ⟨h1, rfl⟩; simp [am_c1, q] at h1; exact K)
  · cases h
theorem am_t_icmp {op : ClassFile.Cond} {off : Int} (hC : am_X P B D Z p R s m args meth c mi) (hdg : decode (am_cc B mi) pc = .ok (.if_icmp op off, 3)) (h : am_st P mi (.if_icmp op off) pc lv st M = some (pc', lv', st', M'))
    (hV : am_V p l e R s m args below meth c Q P B D Z mi k0 n0 pc' lv' st' M') : am_V p l e R s m args below meth c Q P B D Z mi k0 n0 pc lv st M := by
  obtain ⟨hx, hb, -⟩ := hC
  unfold am_st at h
  dsimp only at h
  split at h
  · rename_i y x r
    obtain ⟨t, ht, rfl, rfl, rfl, hcs⟩ := am_br_inv h
    intro H locs ls hR hS hl hk hn
    have K := hV H locs ls hR hS hl hk hn
    cases op with
    | eq => exact lv_icmp_eq hx hb hdg ht (fun q => by rcases hcs with ⟨h1, rfl⟩ | ⟨h1, rfl⟩; exact K; simp [am_c2, q] at h1) (fun q => by rcases hcs with ⟨h1, rfl⟩ | ⟨h1, rfl⟩; simp [am_c2, q] at h1; exact K)
    | ne => exact lv_icmp_ne hx hb hdg ht (fun q => by rcases hcs with ⟨h1, rfl⟩ | ⟨h1, rfl⟩; exact K; simp [am_c2, q] at h1) (fun q => by rcases hcs with ⟨h1, rfl⟩ | ⟨h1, rfl⟩; simp [am_c2, q] at h1; exact K)
    | lt => exact lv_icmp_lt hx hb hdg ht (fun q => by rcases hcs with ⟨h1, rfl⟩ | ⟨h1, rfl⟩; exact K; simp [am_c2, q] at h1) (fun q => by rcases hcs with ⟨h1, rfl⟩ | ⟨h1, rfl⟩; simp [am_c2, q] at h1; exact K)
    | ge => exact lv_icmp_ge hx hb hdg ht (fun q => by rcases hcs with ⟨h1, rfl⟩ | ⟨h1, rfl⟩; exact K; simp [am_c2, q] at h1) (fun q => by rcases hcs with ⟨h1, rfl⟩ | ⟨h1, rfl⟩; simp [am_c2, q] at h1; exact K)
    | gt => exact lv_icmp_gt hx hb hdg ht (fun q => by rcases hcs with ⟨h1, rfl⟩ | ⟨h1, rfl⟩; exact K; simp [am_c2, q] at h1) (fun q => by rcases hcs with ⟨h1, rfl⟩ | ⟨h1, rfl⟩; simp [am_c2, q] at h1; exact K)
    | le => exact lv_icmp_le hx hb hdg ht (fun q => by rcases hcs with ⟨h1, rfl⟩ | ⟨h1, rfl⟩; exact K; simp [am_c2, q] at h1) (fun q => by rcases hcs with ⟨h1, rfl⟩ | ⟨h1, rfl⟩; simp [am_c2, q] at h1; exact K)
  · cases h
theorem am_t_iconst {n : Int} (hC : am_X P B D Z p R s m args meth c mi) (hdg : decode (am_cc B mi) pc = .ok (.iconst n, 1)) (h : am_st P mi (.iconst n) pc lv st M = some (pc', lv', st', M'))
    (hV : am_V p l e R s m args below meth c Q P B D Z mi k0 n0 pc' lv' st' M') : am_V p l e R s m args below meth c Q P B D Z mi k0 n0 pc lv st M := by
  obtain ⟨hx, hb, -⟩ := hC
  cases h
  exact fun H locs ls hR hS hl hk hn => lv_iconst hx hb hdg rfl (hV H locs ls hR hS hl hk hn)
theorem am_t_bipush {n : Int} (hC : am_X P B D Z p R s m args meth c mi) (hdg : decode (am_cc B mi) pc = .ok (.bipush n, 2)) (h : am_st P mi (.bipush n) pc lv st M = some (pc', lv', st', M'))
    (hV : am_V p l e R s m args below meth c Q P B D Z mi k0 n0 pc' lv' st' M') : am_V p l e R s m args below meth c Q P B D Z mi k0 n0 pc lv st M := by
  obtain ⟨hx, hb, -⟩ := hC
  cases h
  exact fun H locs ls hR hS hl hk hn => lv_bipush hx hb hdg rfl (hV H locs ls hR hS hl hk hn)
theorem am_t_sipush {n : Int} (hC : am_X P B D Z p R s m args meth c mi) (hdg : decode (am_cc B mi) pc = .ok (.sipush n, 3)) (h : am_st P mi (.sipush n) pc lv st M = some (pc', lv', st', M'))
    (hV : am_V p l e R s m args below meth c Q P B D Z mi k0 n0 pc' lv' st' M') : am_V p l e R s m args below meth c Q P B D Z mi k0 n0 pc lv st M := by
  obtain ⟨hx, hb, -⟩ := hC
  cases h
  exact fun H locs ls hR hS hl hk hn => lv_sipush hx hb hdg rfl (hV H locs ls hR hS hl hk hn)
theorem am_t_lconst {n : Fin 2} (hC : am_X P B D Z p R s m args meth c mi) (hdg : decode (am_cc B mi) pc = .ok (.lconst n, 1)) (h : am_st P mi (.lconst n) pc lv st M = some (pc', lv', st', M'))
    (hV : am_V p l e R s m args below meth c Q P B D Z mi k0 n0 pc' lv' st' M') : am_V p l e R s m args below meth c Q P B D Z mi k0 n0 pc lv st M := by
  obtain ⟨hx, hb, -⟩ := hC
  cases h
  exact fun H locs ls hR hS hl hk hn => lv_lconst hx hb hdg rfl (hV H locs ls hR hS hl hk hn)
theorem am_t_fconst0 (hC : am_X P B D Z p R s m args meth c mi) (hdg : decode (am_cc B mi) pc = .ok (.fconst 0, 1)) (h : am_st P mi (.fconst 0) pc lv st M = some (pc', lv', st', M'))
    (hV : am_V p l e R s m args below meth c Q P B D Z mi k0 n0 pc' lv' st' M') : am_V p l e R s m args below meth c Q P B D Z mi k0 n0 pc lv st M := by
  obtain ⟨hx, hb, -⟩ := hC
  cases h
  exact fun H locs ls hR hS hl hk hn => lv_fconst0 hx hb hdg (hV H locs ls hR hS hl hk hn)
theorem am_t_fconst1 (hC : am_X P B D Z p R s m args meth c mi) (hdg : decode (am_cc B mi) pc = .ok (.fconst 1, 1)) (h : am_st P mi (.fconst 1) pc lv st M = some (pc', lv', st', M'))
    (hV : am_V p l e R s m args below meth c Q P B D Z mi k0 n0 pc' lv' st' M') : am_V p l e R s m args below meth c Q P B D Z mi k0 n0 pc lv st M := by
  obtain ⟨hx, hb, -⟩ := hC
  cases h
  exact fun H locs ls hR hS hl hk hn => lv_fconst1 hx hb hdg (hV H locs ls hR hS hl hk hn)
theorem am_t_fconst2 (hC : am_X P B D Z p R s m args meth c mi) (hdg : decode (am_cc B mi) pc = .ok (.fconst 2, 1)) (h : am_st P mi (.fconst 2) pc lv st M = some (pc', lv', st', M'))
    (hV : am_V p l e R s m args below meth c Q P B D Z mi k0 n0 pc' lv' st' M') : am_V p l e R s m args below meth c Q P B D Z mi k0 n0 pc lv st M := by
  obtain ⟨hx, hb, -⟩ := hC
  cases h
  exact fun H locs ls hR hS hl hk hn => lv_fconst2 hx hb hdg (hV H locs ls hR hS hl hk hn)
theorem am_t_dconst0 (hC : am_X P B D Z p R s m args meth c mi) (hdg : decode (am_cc B mi) pc = .ok (.dconst 0, 1)) (h : am_st P mi (.dconst 0) pc lv st M = some (pc', lv', st', M'))
    (hV : am_V p l e R s m args below meth c Q P B D Z mi k0 n0 pc' lv' st' M') : am_V p l e R s m args below meth c Q P B D Z mi k0 n0 pc lv st M := by
  obtain ⟨hx, hb, -⟩ := hC
  cases h
  exact fun H locs ls hR hS hl hk hn => lv_dconst0 hx hb hdg (hV H locs ls hR hS hl hk hn)
theorem am_t_dconst1 (hC : am_X P B D Z p R s m args meth c mi) (hdg : decode (am_cc B mi) pc = .ok (.dconst 1, 1)) (h : am_st P mi (.dconst 1) pc lv st M = some (pc', lv', st', M'))
    (hV : am_V p l e R s m args below meth c Q P B D Z mi k0 n0 pc' lv' st' M') : am_V p l e R s m args below meth c Q P B D Z mi k0 n0 pc lv st M := by
  obtain ⟨hx, hb, -⟩ := hC
  cases h
  exact fun H locs ls hR hS hl hk hn => lv_dconst1 hx hb hdg (hV H locs ls hR hS hl hk hn)
theorem am_t_iload_n {k : Fin 4} (hC : am_X P B D Z p R s m args meth c mi) (hdg : decode (am_cc B mi) pc = .ok (.iload_n k, 1)) (h : am_st P mi (.iload_n k) pc lv st M = some (pc', lv', st', M'))
    (hV : am_V p l e R s m args below meth c Q P B D Z mi k0 n0 pc' lv' st' M') : am_V p l e R s m args below meth c Q P B D Z mi k0 n0 pc lv st M := by
  obtain ⟨hx, hb, -⟩ := hC
  obtain ⟨v, hv, rfl, rfl, rfl, rfl⟩ := am_pu_inv h
  obtain ⟨x, rfl, ho⟩ := am_ld_int hv
  exact fun H locs ls hR hS hl hk hn => lv_iload_n hx hb hdg rfl (am_lat hl ho) (hV H locs ls hR hS hl hk hn)
theorem am_t_lload_n {k : Fin 4} (hC : am_X P B D Z p R s m args meth c mi) (hdg : decode (am_cc B mi) pc = .ok (.lload_n k, 1)) (h : am_st P mi (.lload_n k) pc lv st M = some (pc', lv', st', M'))
    (hV : am_V p l e R s m args below meth c Q P B D Z mi k0 n0 pc' lv' st' M') : am_V p l e R s m args below meth c Q P B D Z mi k0 n0 pc lv st M := by
  obtain ⟨hx, hb, -⟩ := hC
  obtain ⟨v, hv, rfl, rfl, rfl, rfl⟩ := am_pu_inv h
  obtain ⟨x, rfl, ho⟩ := am_ld_long hv
  exact fun H locs ls hR hS hl hk hn => lv_lload_n hx hb hdg rfl (am_lat hl ho) (hV H locs ls hR hS hl hk hn)
theorem am_t_fload_n {k : Fin 4} (hC : am_X P B D Z p R s m args meth c mi) (hdg : decode (am_cc B mi) pc = .ok (.fload_n k, 1)) (h : am_st P mi (.fload_n k) pc lv st M = some (pc', lv', st', M'))
    (hV : am_V p l e R s m args below meth c Q P B D Z mi k0 n0 pc' lv' st' M') : am_V p l e R s m args below meth c Q P B D Z mi k0 n0 pc lv st M := by
  obtain ⟨hx, hb, -⟩ := hC
  obtain ⟨v, hv, rfl, rfl, rfl, rfl⟩ := am_pu_inv h
  obtain ⟨x, rfl, ho⟩ := am_ld_float hv
  exact fun H locs ls hR hS hl hk hn => lv_fload_n hx hb hdg rfl (am_lat hl ho) (hV H locs ls hR hS hl hk hn)
theorem am_t_dload_n {k : Fin 4} (hC : am_X P B D Z p R s m args meth c mi) (hdg : decode (am_cc B mi) pc = .ok (.dload_n k, 1)) (h : am_st P mi (.dload_n k) pc lv st M = some (pc', lv', st', M'))
    (hV : am_V p l e R s m args below meth c Q P B D Z mi k0 n0 pc' lv' st' M') : am_V p l e R s m args below meth c Q P B D Z mi k0 n0 pc lv st M := by
  obtain ⟨hx, hb, -⟩ := hC
  obtain ⟨v, hv, rfl, rfl, rfl, rfl⟩ := am_pu_inv h
  obtain ⟨x, rfl, ho⟩ := am_ld_double hv
  exact fun H locs ls hR hS hl hk hn => lv_dload_n hx hb hdg rfl (am_lat hl ho) (hV H locs ls hR hS hl hk hn)
theorem am_t_iload {i : Nat} (hC : am_X P B D Z p R s m args meth c mi) (hdg : decode (am_cc B mi) pc = .ok (.iload i, 2)) (h : am_st P mi (.iload i) pc lv st M = some (pc', lv', st', M'))
    (hV : am_V p l e R s m args below meth c Q P B D Z mi k0 n0 pc' lv' st' M') : am_V p l e R s m args below meth c Q P B D Z mi k0 n0 pc lv st M := by
  obtain ⟨hx, hb, -⟩ := hC
  obtain ⟨v, hv, rfl, rfl, rfl, rfl⟩ := am_pu_inv h
  obtain ⟨x, rfl, ho⟩ := am_ld_int hv
  exact fun H locs ls hR hS hl hk hn => lv_iload hx hb hdg (am_lat hl ho) (hV H locs ls hR hS hl hk hn)
theorem am_t_lload {i : Nat} (hC : am_X P B D Z p R s m args meth c mi) (hdg : decode (am_cc B mi) pc = .ok (.lload i, 2)) (h : am_st P mi (.lload i) pc lv st M = some (pc', lv', st', M'))
    (hV : am_V p l e R s m args below meth c Q P B D Z mi k0 n0 pc' lv' st' M') : am_V p l e R s m args below meth c Q P B D Z mi k0 n0 pc lv st M := by
  obtain ⟨hx, hb, -⟩ := hC
  obtain ⟨v, hv, rfl, rfl, rfl, rfl⟩ := am_pu_inv h
  obtain ⟨x, rfl, ho⟩ := am_ld_long hv
  exact fun H locs ls hR hS hl hk hn => lv_lload hx hb hdg (am_lat hl ho) (hV H locs ls hR hS hl hk hn)
theorem am_t_aload_n {k : Fin 4} (hC : am_X P B D Z p R s m args meth c mi) (hdg : decode (am_cc B mi) pc = .ok (.aload_n k, 1)) (h : am_st P mi (.aload_n k) pc lv st M = some (pc', lv', st', M'))
    (hV : am_V p l e R s m args below meth c Q P B D Z mi k0 n0 pc' lv' st' M') : am_V p l e R s m args below meth c Q P B D Z mi k0 n0 pc lv st M := by
  obtain ⟨hx, hb, -⟩ := hC
  obtain ⟨v, hv, rfl, rfl, rfl, rfl⟩ := am_pu_inv h
  obtain ⟨ho, -, a, ha⟩ := am_ld_ref Z hv
  intro H locs ls hR hS hl hk hn
  have K := hV H locs ls hR hS hl hk hn
  have hat := am_lat hl ho
  rw [List.map_cons] at K
  rw [ha] at hat K
  exact lv_aload_n hx hb hdg rfl hat K
theorem am_t_aload {i : Nat} (hC : am_X P B D Z p R s m args meth c mi) (hdg : decode (am_cc B mi) pc = .ok (.aload i, 2)) (h : am_st P mi (.aload i) pc lv st M = some (pc', lv', st', M'))
    (hV : am_V p l e R s m args below meth c Q P B D Z mi k0 n0 pc' lv' st' M') : am_V p l e R s m args below meth c Q P B D Z mi k0 n0 pc lv st M := by
  obtain ⟨hx, hb, -⟩ := hC
  obtain ⟨v, hv, rfl, rfl, rfl, rfl⟩ := am_pu_inv h
  obtain ⟨ho, -, a, ha⟩ := am_ld_ref Z hv
  intro H locs ls hR hS hl hk hn
  have K := hV H locs ls hR hS hl hk hn
  have hat := am_lat hl ho
  rw [List.map_cons] at K
  rw [ha] at hat K
  exact lv_aload hx hb hdg hat K
theorem am_t_istore_n {k : Fin 4} (hC : am_X P B D Z p R s m args meth c mi) (hdg : decode (am_cc B mi) pc = .ok (.istore_n k, 1)) (h : am_st P mi (.istore_n k) pc lv st M = some (pc', lv', st', M'))
    (hV : am_V p l e R s m args below meth c Q P B D Z mi k0 n0 pc' lv' st' M') : am_V p l e R s m args below meth c Q P B D Z mi k0 n0 pc lv st M := by
  obtain ⟨hx, hb, -⟩ := hC
  obtain ⟨v, r, rfl, ⟨u, hu⟩, rfl, rfl, rfl, hcs⟩ := am_so_inv h
  obtain ⟨x, rfl, ho⟩ := am_ld_int hu
  cases ho
  rcases hcs with ⟨hc, -, -⟩ | ⟨-, hi, rfl⟩
  · cases hc
  · exact fun H locs ls hR hS hl hk hn => lv_istore_n hx hb hdg rfl hl hi (am_lt1 Z lv (k : Nat) (.int x)) (fun ls' hl' => hV H locs ls' hR hS hl' hk hn)
theorem am_t_istore {i : Nat} (hC : am_X P B D Z p R s m args meth c mi) (hdg : decode (am_cc B mi) pc = .ok (.istore i, 2)) (h : am_st P mi (.istore i) pc lv st M = some (pc', lv', st', M'))
    (hV : am_V p l e R s m args below meth c Q P B D Z mi k0 n0 pc' lv' st' M') : am_V p l e R s m args below meth c Q P B D Z mi k0 n0 pc lv st M := by
  obtain ⟨hx, hb, -⟩ := hC
  obtain ⟨v, r, rfl, ⟨u, hu⟩, rfl, rfl, rfl, hcs⟩ := am_so_inv h
  obtain ⟨x, rfl, ho⟩ := am_ld_int hu
  cases ho
  rcases hcs with ⟨hc, -, -⟩ | ⟨-, hi, rfl⟩
  · cases hc
  · exact fun H locs ls hR hS hl hk hn => lv_istore hx hb hdg hl hi (am_lt1 Z lv i (.int x)) (fun ls' hl' => hV H locs ls' hR hS hl' hk hn)
theorem am_t_lstore_n {k : Fin 4} (hC : am_X P B D Z p R s m args meth c mi) (hdg : decode (am_cc B mi) pc = .ok (.lstore_n k, 1)) (h : am_st P mi (.lstore_n k) pc lv st M = some (pc', lv', st', M'))
    (hV : am_V p l e R s m args below meth c Q P B D Z mi k0 n0 pc' lv' st' M') : am_V p l e R s m args below meth c Q P B D Z mi k0 n0 pc lv st M := by
  obtain ⟨hx, hb, -⟩ := hC
  obtain ⟨v, r, rfl, ⟨u, hu⟩, rfl, rfl, rfl, hcs⟩ := am_so_inv h
  obtain ⟨x, rfl, ho⟩ := am_ld_long hu
  cases ho
  rcases hcs with ⟨-, hi, rfl⟩ | ⟨hc, -, -⟩
  · exact fun H locs ls hR hS hl hk hn => lv_lstore_n hx hb hdg rfl hl hi (am_lt2 Z lv (k : Nat) (.long x)) (fun ls' hl' => hV H locs ls' hR hS hl' hk hn)
  · exact absurd rfl hc
theorem am_t_lstore {i : Nat} (hC : am_X P B D Z p R s m args meth c mi) (hdg : decode (am_cc B mi) pc = .ok (.lstore i, 2)) (h : am_st P mi (.lstore i) pc lv st M = some (pc', lv', st', M'))
    (hV : am_V p l e R s m args below meth c Q P B D Z mi k0 n0 pc' lv' st' M') : am_V p l e R s m args below meth c Q P B D Z mi k0 n0 pc lv st M := by
  obtain ⟨hx, hb, -⟩ := hC
  obtain ⟨v, r, rfl, ⟨u, hu⟩, rfl, rfl, rfl, hcs⟩ := am_so_inv h
  obtain ⟨x, rfl, ho⟩ := am_ld_long hu
  cases ho
  rcases hcs with ⟨-, hi, rfl⟩ | ⟨hc, -, -⟩
  · exact fun H locs ls hR hS hl hk hn => lv_lstore hx hb hdg hl hi (am_lt2 Z lv i (.long x)) (fun ls' hl' => hV H locs ls' hR hS hl' hk hn)
  · exact absurd rfl hc
theorem am_t_fstore_n {k : Fin 4} (hC : am_X P B D Z p R s m args meth c mi) (hdg : decode (am_cc B mi) pc = .ok (.fstore_n k, 1)) (h : am_st P mi (.fstore_n k) pc lv st M = some (pc', lv', st', M'))
    (hV : am_V p l e R s m args below meth c Q P B D Z mi k0 n0 pc' lv' st' M') : am_V p l e R s m args below meth c Q P B D Z mi k0 n0 pc lv st M := by
  obtain ⟨hx, hb, -⟩ := hC
  obtain ⟨v, r, rfl, ⟨u, hu⟩, rfl, rfl, rfl, hcs⟩ := am_so_inv h
  obtain ⟨x, rfl, ho⟩ := am_ld_float hu
  cases ho
  rcases hcs with ⟨hc, -, -⟩ | ⟨-, hi, rfl⟩
  · cases hc
  · exact fun H locs ls hR hS hl hk hn => lv_fstore_n hx hb hdg rfl hl hi (am_lt1 Z lv (k : Nat) (.float x)) (fun ls' hl' => hV H locs ls' hR hS hl' hk hn)
theorem am_t_dstore_n {k : Fin 4} (hC : am_X P B D Z p R s m args meth c mi) (hdg : decode (am_cc B mi) pc = .ok (.dstore_n k, 1)) (h : am_st P mi (.dstore_n k) pc lv st M = some (pc', lv', st', M'))
    (hV : am_V p l e R s m args below meth c Q P B D Z mi k0 n0 pc' lv' st' M') : am_V p l e R s m args below meth c Q P B D Z mi k0 n0 pc lv st M := by
  obtain ⟨hx, hb, -⟩ := hC
  obtain ⟨v, r, rfl, ⟨u, hu⟩, rfl, rfl, rfl, hcs⟩ := am_so_inv h
  obtain ⟨x, rfl, ho⟩ := am_ld_double hu
  cases ho
  rcases hcs with ⟨-, hi, rfl⟩ | ⟨hc, -, -⟩
  · exact fun H locs ls hR hS hl hk hn => lv_dstore_n hx hb hdg rfl hl hi (am_lt2 Z lv (k : Nat) (.double x)) (fun ls' hl' => hV H locs ls' hR hS hl' hk hn)
  · exact absurd rfl hc
theorem am_t_astore_n {k : Fin 4} (hC : am_X P B D Z p R s m args meth c mi) (hdg : decode (am_cc B mi) pc = .ok (.astore_n k, 1)) (h : am_st P mi (.astore_n k) pc lv st M = some (pc', lv', st', M'))
    (hV : am_V p l e R s m args below meth c Q P B D Z mi k0 n0 pc' lv' st' M') : am_V p l e R s m args below meth c Q P B D Z mi k0 n0 pc lv st M := by
  obtain ⟨hx, hb, -⟩ := hC
  obtain ⟨v, r, rfl, ⟨u, hu⟩, rfl, rfl, rfl, hcs⟩ := am_so_inv h
  obtain ⟨ho, hc1, a, ha⟩ := am_ld_ref Z hu
  cases ho
  rcases hcs with ⟨hc, -, -⟩ | ⟨-, hi, rfl⟩
  · omega
  · intro H locs ls hR hS hl hk hn
    have e1 := am_lt1 Z lv (k : Nat) v
    rw [List.map_cons, ha]
    rw [ha] at e1
    exact lv_astore_n hx hb hdg rfl hl hi e1 (fun ls' hl' => hV H locs ls' hR hS hl' hk hn)
theorem am_t_astore {i : Nat} (hC : am_X P B D Z p R s m args meth c mi) (hdg : decode (am_cc B mi) pc = .ok (.astore i, 2)) (h : am_st P mi (.astore i) pc lv st M = some (pc', lv', st', M'))
    (hV : am_V p l e R s m args below meth c Q P B D Z mi k0 n0 pc' lv' st' M') : am_V p l e R s m args below meth c Q P B D Z mi k0 n0 pc lv st M := by
  obtain ⟨hx, hb, -⟩ := hC
  obtain ⟨v, r, rfl, ⟨u, hu⟩, rfl, rfl, rfl, hcs⟩ := am_so_inv h
  obtain ⟨ho, hc1, a, ha⟩ := am_ld_ref Z hu
  cases ho
  rcases hcs with ⟨hc, -, -⟩ | ⟨-, hi, rfl⟩
  · omega
  · intro H locs ls hR hS hl hk hn
    have e1 := am_lt1 Z lv i v
    rw [List.map_cons, ha]
    rw [ha] at e1
    exact lv_astore hx hb hdg hl hi e1 (fun ls' hl' => hV H locs ls' hR hS hl' hk hn)
theorem am_t_iadd (hC : am_X P B D Z p R s m args meth c mi) (hdg : decode (am_cc B mi) pc = .ok (.iadd, 1)) (h : am_st P mi (.iadd) pc lv st M = some (pc', lv', st', M'))
    (hV : am_V p l e R s m args below meth c Q P B D Z mi k0 n0 pc' lv' st' M') : am_V p l e R s m args below meth c Q P B D Z mi k0 n0 pc lv st M := by
  obtain ⟨hx, hb, -⟩ := hC
  obtain ⟨x, y, r, v, rfl, hv, rfl, rfl, rfl, rfl⟩ := am_2_inv h
  obtain ⟨a, b, rfl, rfl, rfl⟩ := am_fI_inv hv
  exact fun H locs ls hR hS hl hk hn => lv_iadd hx hb hdg (hV H locs ls hR hS hl hk hn)
theorem am_t_isub (hC : am_X P B D Z p R s m args meth c mi) (hdg : decode (am_cc B mi) pc = .ok (.isub, 1)) (h : am_st P mi (.isub) pc lv st M = some (pc', lv', st', M'))
    (hV : am_V p l e R s m args below meth c Q P B D Z mi k0 n0 pc' lv' st' M') : am_V p l e R s m args below meth c Q P B D Z mi k0 n0 pc lv st M := by
  obtain ⟨hx, hb, -⟩ := hC
  obtain ⟨x, y, r, v, rfl, hv, rfl, rfl, rfl, rfl⟩ := am_2_inv h
  obtain ⟨a, b, rfl, rfl, rfl⟩ := am_fI_inv hv
  exact fun H locs ls hR hS hl hk hn => lv_isub hx hb hdg (hV H locs ls hR hS hl hk hn)
theorem am_t_imul (hC : am_X P B D Z p R s m args meth c mi) (hdg : decode (am_cc B mi) pc = .ok (.imul, 1)) (h : am_st P mi (.imul) pc lv st M = some (pc', lv', st', M'))
    (hV : am_V p l e R s m args below meth c Q P B D Z mi k0 n0 pc' lv' st' M') : am_V p l e R s m args below meth c Q P B D Z mi k0 n0 pc lv st M := by
  obtain ⟨hx, hb, -⟩ := hC
  obtain ⟨x, y, r, v, rfl, hv, rfl, rfl, rfl, rfl⟩ := am_2_inv h
  obtain ⟨a, b, rfl, rfl, rfl⟩ := am_fI_inv hv
  exact fun H locs ls hR hS hl hk hn => lv_imul hx hb hdg (hV H locs ls hR hS hl hk hn)
theorem am_t_iand (hC : am_X P B D Z p R s m args meth c mi) (hdg : decode (am_cc B mi) pc = .ok (.iand, 1)) (h : am_st P mi (.iand) pc lv st M = some (pc', lv', st', M'))
    (hV : am_V p l e R s m args below meth c Q P B D Z mi k0 n0 pc' lv' st' M') : am_V p l e R s m args below meth c Q P B D Z mi k0 n0 pc lv st M := by
  obtain ⟨hx, hb, -⟩ := hC
  obtain ⟨x, y, r, v, rfl, hv, rfl, rfl, rfl, rfl⟩ := am_2_inv h
  obtain ⟨a, b, rfl, rfl, rfl⟩ := am_fI_inv hv
  exact fun H locs ls hR hS hl hk hn => lv_iand hx hb hdg (hV H locs ls hR hS hl hk hn)
theorem am_t_ior (hC : am_X P B D Z p R s m args meth c mi) (hdg : decode (am_cc B mi) pc = .ok (.ior, 1)) (h : am_st P mi (.ior) pc lv st M = some (pc', lv', st', M'))
    (hV : am_V p l e R s m args below meth c Q P B D Z mi k0 n0 pc' lv' st' M') : am_V p l e R s m args below meth c Q P B D Z mi k0 n0 pc lv st M := by
  obtain ⟨hx, hb, -⟩ := hC
  obtain ⟨x, y, r, v, rfl, hv, rfl, rfl, rfl, rfl⟩ := am_2_inv h
  obtain ⟨a, b, rfl, rfl, rfl⟩ := am_fI_inv hv
  exact fun H locs ls hR hS hl hk hn => lv_ior hx hb hdg (hV H locs ls hR hS hl hk hn)
theorem am_t_ixor (hC : am_X P B D Z p R s m args meth c mi) (hdg : decode (am_cc B mi) pc = .ok (.ixor, 1)) (h : am_st P mi (.ixor) pc lv st M = some (pc', lv', st', M'))
    (hV : am_V p l e R s m args below meth c Q P B D Z mi k0 n0 pc' lv' st' M') : am_V p l e R s m args below meth c Q P B D Z mi k0 n0 pc lv st M := by
  obtain ⟨hx, hb, -⟩ := hC
  obtain ⟨x, y, r, v, rfl, hv, rfl, rfl, rfl, rfl⟩ := am_2_inv h
  obtain ⟨a, b, rfl, rfl, rfl⟩ := am_fI_inv hv
  exact fun H locs ls hR hS hl hk hn => lv_ixor hx hb hdg (hV H locs ls hR hS hl hk hn)
theorem am_t_ishl (hC : am_X P B D Z p R s m args meth c mi) (hdg : decode (am_cc B mi) pc = .ok (.ishl, 1)) (h : am_st P mi (.ishl) pc lv st M = some (pc', lv', st', M'))
    (hV : am_V p l e R s m args below meth c Q P B D Z mi k0 n0 pc' lv' st' M') : am_V p l e R s m args below meth c Q P B D Z mi k0 n0 pc lv st M := by
  obtain ⟨hx, hb, -⟩ := hC
  obtain ⟨x, y, r, v, rfl, hv, rfl, rfl, rfl, rfl⟩ := am_2_inv h
  obtain ⟨a, b, rfl, rfl, rfl⟩ := am_fI_inv hv
  exact fun H locs ls hR hS hl hk hn => lv_ishl hx hb hdg (hV H locs ls hR hS hl hk hn)
theorem am_t_ishr (hC : am_X P B D Z p R s m args meth c mi) (hdg : decode (am_cc B mi) pc = .ok (.ishr, 1)) (h : am_st P mi (.ishr) pc lv st M = some (pc', lv', st', M'))
    (hV : am_V p l e R s m args below meth c Q P B D Z mi k0 n0 pc' lv' st' M') : am_V p l e R s m args below meth c Q P B D Z mi k0 n0 pc lv st M := by
  obtain ⟨hx, hb, -⟩ := hC
  obtain ⟨x, y, r, v, rfl, hv, rfl, rfl, rfl, rfl⟩ := am_2_inv h
  obtain ⟨a, b, rfl, rfl, rfl⟩ := am_fI_inv hv
  exact fun H locs ls hR hS hl hk hn => lv_ishr hx hb hdg (hV H locs ls hR hS hl hk hn)
theorem am_t_iushr (hC : am_X P B D Z p R s m args meth c mi) (hdg : decode (am_cc B mi) pc = .ok (.iushr, 1)) (h : am_st P mi (.iushr) pc lv st M = some (pc', lv', st', M'))
    (hV : am_V p l e R s m args below meth c Q P B D Z mi k0 n0 pc' lv' st' M') : am_V p l e R s m args below meth c Q P B D Z mi k0 n0 pc lv st M := by
  obtain ⟨hx, hb, -⟩ := hC
  obtain ⟨x, y, r, v, rfl, hv, rfl, rfl, rfl, rfl⟩ := am_2_inv h
  obtain ⟨a, b, rfl, rfl, rfl⟩ := am_fI_inv hv
  exact fun H locs ls hR hS hl hk hn => lv_iushr hx hb hdg rfl (hV H locs ls hR hS hl hk hn)
theorem am_t_idiv (hC : am_X P B D Z p R s m args meth c mi) (hdg : decode (am_cc B mi) pc = .ok (.idiv, 1)) (h : am_st P mi (.idiv) pc lv st M = some (pc', lv', st', M'))
    (hV : am_V p l e R s m args below meth c Q P B D Z mi k0 n0 pc' lv' st' M') : am_V p l e R s m args below meth c Q P B D Z mi k0 n0 pc lv st M := by
  obtain ⟨hx, hb, -⟩ := hC
  obtain ⟨x, y, r, v, rfl, hv, rfl, rfl, rfl, rfl⟩ := am_2_inv h
  obtain ⟨a, b, rfl, rfl, hne, rfl⟩ := am_fID_inv hv
  exact fun H locs ls hR hS hl hk hn => lv_idiv hx hb hdg hne (hV H locs ls hR hS hl hk hn)
theorem am_t_irem (hC : am_X P B D Z p R s m args meth c mi) (hdg : decode (am_cc B mi) pc = .ok (.irem, 1)) (h : am_st P mi (.irem) pc lv st M = some (pc', lv', st', M'))
    (hV : am_V p l e R s m args below meth c Q P B D Z mi k0 n0 pc' lv' st' M') : am_V p l e R s m args below meth c Q P B D Z mi k0 n0 pc lv st M := by
  obtain ⟨hx, hb, -⟩ := hC
  obtain ⟨x, y, r, v, rfl, hv, rfl, rfl, rfl, rfl⟩ := am_2_inv h
  obtain ⟨a, b, rfl, rfl, hne, rfl⟩ := am_fID_inv hv
  exact fun H locs ls hR hS hl hk hn => lv_irem hx hb hdg hne (hV H locs ls hR hS hl hk hn)
theorem am_t_ladd (hC : am_X P B D Z p R s m args meth c mi) (hdg : decode (am_cc B mi) pc = .ok (.ladd, 1)) (h : am_st P mi (.ladd) pc lv st M = some (pc', lv', st', M'))
    (hV : am_V p l e R s m args below meth c Q P B D Z mi k0 n0 pc' lv' st' M') : am_V p l e R s m args below meth c Q P B D Z mi k0 n0 pc lv st M := by
  obtain ⟨hx, hb, -⟩ := hC
  obtain ⟨x, y, r, v, rfl, hv, rfl, rfl, rfl, rfl⟩ := am_2_inv h
  obtain ⟨a, b, rfl, rfl, rfl⟩ := am_fL_inv hv
  exact fun H locs ls hR hS hl hk hn => lv_ladd hx hb hdg (hV H locs ls hR hS hl hk hn)
theorem am_t_lsub (hC : am_X P B D Z p R s m args meth c mi) (hdg : decode (am_cc B mi) pc = .ok (.lsub, 1)) (h : am_st P mi (.lsub) pc lv st M = some (pc', lv', st', M'))
    (hV : am_V p l e R s m args below meth c Q P B D Z mi k0 n0 pc' lv' st' M') : am_V p l e R s m args below meth c Q P B D Z mi k0 n0 pc lv st M := by
  obtain ⟨hx, hb, -⟩ := hC
  obtain ⟨x, y, r, v, rfl, hv, rfl, rfl, rfl, rfl⟩ := am_2_inv h
  obtain ⟨a, b, rfl, rfl, rfl⟩ := am_fL_inv hv
  exact fun H locs ls hR hS hl hk hn => lv_lsub hx hb hdg (hV H locs ls hR hS hl hk hn)
theorem am_t_lmul (hC : am_X P B D Z p R s m args meth c mi) (hdg : decode (am_cc B mi) pc = .ok (.lmul, 1)) (h : am_st P mi (.lmul) pc lv st M = some (pc', lv', st', M'))
    (hV : am_V p l e R s m args below meth c Q P B D Z mi k0 n0 pc' lv' st' M') : am_V p l e R s m args below meth c Q P B D Z mi k0 n0 pc lv st M := by
  obtain ⟨hx, hb, -⟩ := hC
  obtain ⟨x, y, r, v, rfl, hv, rfl, rfl, rfl, rfl⟩ := am_2_inv h
  obtain ⟨a, b, rfl, rfl, rfl⟩ := am_fL_inv hv
  exact fun H locs ls hR hS hl hk hn => lv_lmul hx hb hdg (hV H locs ls hR hS hl hk hn)
theorem am_t_land (hC : am_X P B D Z p R s m args meth c mi) (hdg : decode (am_cc B mi) pc = .ok (.land, 1)) (h : am_st P mi (.land) pc lv st M = some (pc', lv', st', M'))
    (hV : am_V p l e R s m args below meth c Q P B D Z mi k0 n0 pc' lv' st' M') : am_V p l e R s m args below meth c Q P B D Z mi k0 n0 pc lv st M := by
  obtain ⟨hx, hb, -⟩ := hC
  obtain ⟨x, y, r, v, rfl, hv, rfl, rfl, rfl, rfl⟩ := am_2_inv h
  obtain ⟨a, b, rfl, rfl, rfl⟩ := am_fL_inv hv
  exact fun H locs ls hR hS hl hk hn => lv_land hx hb hdg (hV H locs ls hR hS hl hk hn)
theorem am_t_ldiv (hC : am_X P B D Z p R s m args meth c mi) (hdg : decode (am_cc B mi) pc = .ok (.ldiv, 1)) (h : am_st P mi (.ldiv) pc lv st M = some (pc', lv', st', M'))
    (hV : am_V p l e R s m args below meth c Q P B D Z mi k0 n0 pc' lv' st' M') : am_V p l e R s m args below meth c Q P B D Z mi k0 n0 pc lv st M := by
  obtain ⟨hx, hb, -⟩ := hC
  obtain ⟨x, y, r, v, rfl, hv, rfl, rfl, rfl, rfl⟩ := am_2_inv h
  obtain ⟨a, b, rfl, rfl, hne, rfl⟩ := am_fLD_inv hv
  exact fun H locs ls hR hS hl hk hn => lv_ldiv hx hb hdg hne (hV H locs ls hR hS hl hk hn)
theorem am_t_lshl (hC : am_X P B D Z p R s m args meth c mi) (hdg : decode (am_cc B mi) pc = .ok (.lshl, 1)) (h : am_st P mi (.lshl) pc lv st M = some (pc', lv', st', M'))
    (hV : am_V p l e R s m args below meth c Q P B D Z mi k0 n0 pc' lv' st' M') : am_V p l e R s m args below meth c Q P B D Z mi k0 n0 pc lv st M := by
  obtain ⟨hx, hb, -⟩ := hC
  obtain ⟨x, y, r, v, rfl, hv, rfl, rfl, rfl, rfl⟩ := am_2_inv h
  obtain ⟨a, b, rfl, rfl, rfl⟩ := am_fLI_inv hv
  exact fun H locs ls hR hS hl hk hn => lv_lshl hx hb hdg rfl (hV H locs ls hR hS hl hk hn)
theorem am_t_lshr (hC : am_X P B D Z p R s m args meth c mi) (hdg : decode (am_cc B mi) pc = .ok (.lshr, 1)) (h : am_st P mi (.lshr) pc lv st M = some (pc', lv', st', M'))
    (hV : am_V p l e R s m args below meth c Q P B D Z mi k0 n0 pc' lv' st' M') : am_V p l e R s m args below meth c Q P B D Z mi k0 n0 pc lv st M := by
  obtain ⟨hx, hb, -⟩ := hC
  obtain ⟨x, y, r, v, rfl, hv, rfl, rfl, rfl, rfl⟩ := am_2_inv h
  obtain ⟨a, b, rfl, rfl, rfl⟩ := am_fLI_inv hv
  exact fun H locs ls hR hS hl hk hn => lv_lshr hx hb hdg rfl (hV H locs ls hR hS hl hk hn)
theorem am_t_dadd (hC : am_X P B D Z p R s m args meth c mi) (hdg : decode (am_cc B mi) pc = .ok (.dadd, 1)) (h : am_st P mi (.dadd) pc lv st M = some (pc', lv', st', M'))
    (hV : am_V p l e R s m args below meth c Q P B D Z mi k0 n0 pc' lv' st' M') : am_V p l e R s m args below meth c Q P B D Z mi k0 n0 pc lv st M := by
  obtain ⟨hx, hb, -⟩ := hC
  obtain ⟨x, y, r, v, rfl, hv, rfl, rfl, rfl, rfl⟩ := am_2_inv h
  obtain ⟨a, b, rfl, rfl, hne, rfl⟩ := am_fD_inv hv
  exact fun H locs ls hR hS hl hk hn => lv_dadd hx hb hdg hne (hV H locs ls hR hS hl hk hn)
theorem am_t_dsub (hC : am_X P B D Z p R s m args meth c mi) (hdg : decode (am_cc B mi) pc = .ok (.dsub, 1)) (h : am_st P mi (.dsub) pc lv st M = some (pc', lv', st', M'))
    (hV : am_V p l e R s m args below meth c Q P B D Z mi k0 n0 pc' lv' st' M') : am_V p l e R s m args below meth c Q P B D Z mi k0 n0 pc lv st M := by
  obtain ⟨hx, hb, -⟩ := hC
  obtain ⟨x, y, r, v, rfl, hv, rfl, rfl, rfl, rfl⟩ := am_2_inv h
  obtain ⟨a, b, rfl, rfl, hne, rfl⟩ := am_fD_inv hv
  exact fun H locs ls hR hS hl hk hn => lv_dsub hx hb hdg hne (hV H locs ls hR hS hl hk hn)
theorem am_t_dmul (hC : am_X P B D Z p R s m args meth c mi) (hdg : decode (am_cc B mi) pc = .ok (.dmul, 1)) (h : am_st P mi (.dmul) pc lv st M = some (pc', lv', st', M'))
    (hV : am_V p l e R s m args below meth c Q P B D Z mi k0 n0 pc' lv' st' M') : am_V p l e R s m args below meth c Q P B D Z mi k0 n0 pc lv st M := by
  obtain ⟨hx, hb, -⟩ := hC
  obtain ⟨x, y, r, v, rfl, hv, rfl, rfl, rfl, rfl⟩ := am_2_inv h
  obtain ⟨a, b, rfl, rfl, hne, rfl⟩ := am_fD_inv hv
  exact fun H locs ls hR hS hl hk hn => lv_dmul hx hb hdg hne (hV H locs ls hR hS hl hk hn)
theorem am_t_ddiv (hC : am_X P B D Z p R s m args meth c mi) (hdg : decode (am_cc B mi) pc = .ok (.ddiv, 1)) (h : am_st P mi (.ddiv) pc lv st M = some (pc', lv', st', M'))
    (hV : am_V p l e R s m args below meth c Q P B D Z mi k0 n0 pc' lv' st' M') : am_V p l e R s m args below meth c Q P B D Z mi k0 n0 pc lv st M := by
  obtain ⟨hx, hb, -⟩ := hC
  obtain ⟨x, y, r, v, rfl, hv, rfl, rfl, rfl, rfl⟩ := am_2_inv h
  obtain ⟨a, b, rfl, rfl, hne, rfl⟩ := am_fD_inv hv
  exact fun H locs ls hR hS hl hk hn => lv_ddiv hx hb hdg hne (hV H locs ls hR hS hl hk hn)
theorem am_t_fsub (hC : am_X P B D Z p R s m args meth c mi) (hdg : decode (am_cc B mi) pc = .ok (.fsub, 1)) (h : am_st P mi (.fsub) pc lv st M = some (pc', lv', st', M'))
    (hV : am_V p l e R s m args below meth c Q P B D Z mi k0 n0 pc' lv' st' M') : am_V p l e R s m args below meth c Q P B D Z mi k0 n0 pc lv st M := by
  obtain ⟨hx, hb, -⟩ := hC
  obtain ⟨x, y, r, v, rfl, hv, rfl, rfl, rfl, rfl⟩ := am_2_inv h
  obtain ⟨a, b, rfl, rfl, hne, rfl⟩ := am_fF_inv hv
  exact fun H locs ls hR hS hl hk hn => lv_fsub hx hb hdg hne (hV H locs ls hR hS hl hk hn)
theorem am_t_fmul (hC : am_X P B D Z p R s m args meth c mi) (hdg : decode (am_cc B mi) pc = .ok (.fmul, 1)) (h : am_st P mi (.fmul) pc lv st M = some (pc', lv', st', M'))
    (hV : am_V p l e R s m args below meth c Q P B D Z mi k0 n0 pc' lv' st' M') : am_V p l e R s m args below meth c Q P B D Z mi k0 n0 pc lv st M := by
  obtain ⟨hx, hb, -⟩ := hC
  obtain ⟨x, y, r, v, rfl, hv, rfl, rfl, rfl, rfl⟩ := am_2_inv h
  obtain ⟨a, b, rfl, rfl, hne, rfl⟩ := am_fF_inv hv
  exact fun H locs ls hR hS hl hk hn => lv_fmul hx hb hdg hne (hV H locs ls hR hS hl hk hn)
theorem am_t_fdiv (hC : am_X P B D Z p R s m args meth c mi) (hdg : decode (am_cc B mi) pc = .ok (.fdiv, 1)) (h : am_st P mi (.fdiv) pc lv st M = some (pc', lv', st', M'))
    (hV : am_V p l e R s m args below meth c Q P B D Z mi k0 n0 pc' lv' st' M') : am_V p l e R s m args below meth c Q P B D Z mi k0 n0 pc lv st M := by
  obtain ⟨hx, hb, -⟩ := hC
  obtain ⟨x, y, r, v, rfl, hv, rfl, rfl, rfl, rfl⟩ := am_2_inv h
  obtain ⟨a, b, rfl, rfl, hne, rfl⟩ := am_fF_inv hv
  exact fun H locs ls hR hS hl hk hn => lv_fdiv hx hb hdg hne (hV H locs ls hR hS hl hk hn)
theorem am_t_lcmp (hC : am_X P B D Z p R s m args meth c mi) (hdg : decode (am_cc B mi) pc = .ok (.lcmp, 1)) (h : am_st P mi (.lcmp) pc lv st M = some (pc', lv', st', M'))
    (hV : am_V p l e R s m args below meth c Q P B D Z mi k0 n0 pc' lv' st' M') : am_V p l e R s m args below meth c Q P B D Z mi k0 n0 pc lv st M := by
  obtain ⟨hx, hb, -⟩ := hC
  obtain ⟨x, y, r, v, rfl, hv, rfl, rfl, rfl, rfl⟩ := am_2_inv h
  split at hv
  · cases hv
    exact fun H locs ls hR hS hl hk hn => W.lcmp hx hb hdg (hV H locs ls hR hS hl hk hn)
  · cases hv
theorem am_t_dcmp {op : CmpOp} (hC : am_X P B D Z p R s m args meth c mi) (hdg : decode (am_cc B mi) pc = .ok (.dcmp op, 1)) (h : am_st P mi (.dcmp op) pc lv st M = some (pc', lv', st', M'))
    (hV : am_V p l e R s m args below meth c Q P B D Z mi k0 n0 pc' lv' st' M') : am_V p l e R s m args below meth c Q P B D Z mi k0 n0 pc lv st M := by
  obtain ⟨hx, hb, -⟩ := hC
  obtain ⟨x, y, r, v, rfl, hv, rfl, rfl, rfl, rfl⟩ := am_2_inv h
  split at hv
  · cases hv
    exact fun H locs ls hR hS hl hk hn => lv_dcmp hx hb hdg (hV H locs ls hR hS hl hk hn)
  · cases hv
theorem am_t_fcmp {op : CmpOp} (hC : am_X P B D Z p R s m args meth c mi) (hdg : decode (am_cc B mi) pc = .ok (.fcmp op, 1)) (h : am_st P mi (.fcmp op) pc lv st M = some (pc', lv', st', M'))
    (hV : am_V p l e R s m args below meth c Q P B D Z mi k0 n0 pc' lv' st' M') : am_V p l e R s m args below meth c Q P B D Z mi k0 n0 pc lv st M := by
  obtain ⟨hx, hb, -⟩ := hC
  obtain ⟨x, y, r, v, rfl, hv, rfl, rfl, rfl, rfl⟩ := am_2_inv h
  split at hv
  · cases hv
    exact fun H locs ls hR hS hl hk hn => lv_fcmp hx hb hdg (hV H locs ls hR hS hl hk hn)
  · cases hv
theorem am_t_ineg (hC : am_X P B D Z p R s m args meth c mi) (hdg : decode (am_cc B mi) pc = .ok (.ineg, 1)) (h : am_st P mi (.ineg) pc lv st M = some (pc', lv', st', M'))
    (hV : am_V p l e R s m args below meth c Q P B D Z mi k0 n0 pc' lv' st' M') : am_V p l e R s m args below meth c Q P B D Z mi k0 n0 pc lv st M := by
  obtain ⟨hx, hb, -⟩ := hC
  obtain ⟨x, r, v, rfl, hv, rfl, rfl, rfl, rfl⟩ := am_1_inv h
  split at hv
  · cases hv
    exact fun H locs ls hR hS hl hk hn => lv_ineg hx hb hdg (hV H locs ls hR hS hl hk hn)
  · cases hv
theorem am_t_i2l (hC : am_X P B D Z p R s m args meth c mi) (hdg : decode (am_cc B mi) pc = .ok (.i2l, 1)) (h : am_st P mi (.i2l) pc lv st M = some (pc', lv', st', M'))
    (hV : am_V p l e R s m args below meth c Q P B D Z mi k0 n0 pc' lv' st' M') : am_V p l e R s m args below meth c Q P B D Z mi k0 n0 pc lv st M := by
  obtain ⟨hx, hb, -⟩ := hC
  obtain ⟨x, r, v, rfl, hv, rfl, rfl, rfl, rfl⟩ := am_1_inv h
  split at hv
  · cases hv
    exact fun H locs ls hR hS hl hk hn => lv_i2l hx hb hdg rfl (hV H locs ls hR hS hl hk hn)
  · cases hv
theorem am_t_l2i (hC : am_X P B D Z p R s m args meth c mi) (hdg : decode (am_cc B mi) pc = .ok (.l2i, 1)) (h : am_st P mi (.l2i) pc lv st M = some (pc', lv', st', M'))
    (hV : am_V p l e R s m args below meth c Q P B D Z mi k0 n0 pc' lv' st' M') : am_V p l e R s m args below meth c Q P B D Z mi k0 n0 pc lv st M := by
  obtain ⟨hx, hb, -⟩ := hC
  obtain ⟨x, r, v, rfl, hv, rfl, rfl, rfl, rfl⟩ := am_1_inv h
  split at hv
  · cases hv
    exact fun H locs ls hR hS hl hk hn => lv_l2i hx hb hdg rfl (hV H locs ls hR hS hl hk hn)
  · cases hv
theorem am_t_l2d (hC : am_X P B D Z p R s m args meth c mi) (hdg : decode (am_cc B mi) pc = .ok (.l2d, 1)) (h : am_st P mi (.l2d) pc lv st M = some (pc', lv', st', M'))
    (hV : am_V p l e R s m args below meth c Q P B D Z mi k0 n0 pc' lv' st' M') : am_V p l e R s m args below meth c Q P B D Z mi k0 n0 pc lv st M := by
  obtain ⟨hx, hb, -⟩ := hC
  obtain ⟨x, r, v, rfl, hv, rfl, rfl, rfl, rfl⟩ := am_1_inv h
  split at hv
  · cases hv
    exact fun H locs ls hR hS hl hk hn => lv_l2d hx hb hdg (hV H locs ls hR hS hl hk hn)
  · cases hv
theorem am_t_i2f (hC : am_X P B D Z p R s m args meth c mi) (hdg : decode (am_cc B mi) pc = .ok (.i2f, 1)) (h : am_st P mi (.i2f) pc lv st M = some (pc', lv', st', M'))
    (hV : am_V p l e R s m args below meth c Q P B D Z mi k0 n0 pc' lv' st' M') : am_V p l e R s m args below meth c Q P B D Z mi k0 n0 pc lv st M := by
  obtain ⟨hx, hb, -⟩ := hC
  obtain ⟨x, r, v, rfl, hv, rfl, rfl, rfl, rfl⟩ := am_1_inv h
  split at hv
  · cases hv
    exact fun H locs ls hR hS hl hk hn => lv_i2f hx hb hdg (hV H locs ls hR hS hl hk hn)
  · cases hv
theorem am_t_d2l (hC : am_X P B D Z p R s m args meth c mi) (hdg : decode (am_cc B mi) pc = .ok (.d2l, 1)) (h : am_st P mi (.d2l) pc lv st M = some (pc', lv', st', M'))
    (hV : am_V p l e R s m args below meth c Q P B D Z mi k0 n0 pc' lv' st' M') : am_V p l e R s m args below meth c Q P B D Z mi k0 n0 pc lv st M := by
  obtain ⟨hx, hb, -⟩ := hC
  obtain ⟨x, r, v, rfl, hv, rfl, rfl, rfl, rfl⟩ := am_1_inv h
  split at hv
  · cases hv
    exact fun H locs ls hR hS hl hk hn => lv_d2l hx hb hdg (hV H locs ls hR hS hl hk hn)
  · cases hv
theorem am_t_f2i (hC : am_X P B D Z p R s m args meth c mi) (hdg : decode (am_cc B mi) pc = .ok (.f2i, 1)) (h : am_st P mi (.f2i) pc lv st M = some (pc', lv', st', M'))
    (hV : am_V p l e R s m args below meth c Q P B D Z mi k0 n0 pc' lv' st' M') : am_V p l e R s m args below meth c Q P B D Z mi k0 n0 pc lv st M := by
  obtain ⟨hx, hb, -⟩ := hC
  obtain ⟨x, r, v, rfl, hv, rfl, rfl, rfl, rfl⟩ := am_1_inv h
  split at hv
  · cases hv
    exact fun H locs ls hR hS hl hk hn => lv_f2i hx hb hdg (hV H locs ls hR hS hl hk hn)
  · cases hv
theorem am_t_iinc {i : Nat} {n : Int} (hC : am_X P B D Z p R s m args meth c mi) (hdg : decode (am_cc B mi) pc = .ok (.iinc i n, 3)) (h : am_st P mi (.iinc i n) pc lv st M = some (pc', lv', st', M'))
    (hV : am_V p l e R s m args below meth c Q P B D Z mi k0 n0 pc' lv' st' M') : am_V p l e R s m args below meth c Q P B D Z mi k0 n0 pc lv st M := by
  obtain ⟨hx, hb, -⟩ := hC
  unfold am_st at h
  dsimp only at h
  split at h
  · rename_i x ho
    by_cases hi : i < am_mxl P mi
    · rw [if_pos hi] at h
      cases h
      intro H locs ls hR hS hl hk hn
      obtain ⟨k, hk'⟩ := List.getElem?_of_mem (List.mem_map.mpr ⟨(i, .int x), am_lkm ho, rfl⟩ : (i, am_tr Z.2.1 Z.2.2 (.int x)) ∈ am_lt Z lv)
      exact lv_iinc hx hb hdg hl (k := k) hk' rfl hi (am_lt1 Z lv i (.int _)) (fun ls' hl' => hV H locs ls' hR hS hl' hk hn)
    · rw [if_neg hi] at h; cases h
  · cases h
theorem am_t_dup (hC : am_X P B D Z p R s m args meth c mi) (hdg : decode (am_cc B mi) pc = .ok (.dup, 1)) (h : am_st P mi (.dup) pc lv st M = some (pc', lv', st', M'))
    (hV : am_V p l e R s m args below meth c Q P B D Z mi k0 n0 pc' lv' st' M') : am_V p l e R s m args below meth c Q P B D Z mi k0 n0 pc lv st M := by
  obtain ⟨hx, hb, -⟩ := hC
  unfold am_st at h
  dsimp only at h
  split at h
  · rename_i v r
    by_cases hc : v.category = 1
    · rw [if_pos hc] at h
      cases h
      exact fun H locs ls hR hS hl hk hn => lv_dup hx hb hdg (by rw [am_cat]; exact hc) (hV H locs ls hR hS hl hk hn)
    · rw [if_neg hc] at h; cases h
  · cases h
theorem am_t_pop (hC : am_X P B D Z p R s m args meth c mi) (hdg : decode (am_cc B mi) pc = .ok (.pop, 1)) (h : am_st P mi (.pop) pc lv st M = some (pc', lv', st', M'))
    (hV : am_V p l e R s m args below meth c Q P B D Z mi k0 n0 pc' lv' st' M') : am_V p l e R s m args below meth c Q P B D Z mi k0 n0 pc lv st M := by
  obtain ⟨hx, hb, -⟩ := hC
  unfold am_st at h
  dsimp only at h
  split at h
  · rename_i v r
    by_cases hc : v.category = 1
    · rw [if_pos hc] at h
      cases h
      exact fun H locs ls hR hS hl hk hn => lv_pop hx hb hdg (by rw [am_cat]; exact hc) (hV H locs ls hR hS hl hk hn)
    · rw [if_neg hc] at h; cases h
  · cases h
theorem am_t_pop2 (hC : am_X P B D Z p R s m args meth c mi) (hdg : decode (am_cc B mi) pc = .ok (.pop2, 1)) (h : am_st P mi (.pop2) pc lv st M = some (pc', lv', st', M'))
    (hV : am_V p l e R s m args below meth c Q P B D Z mi k0 n0 pc' lv' st' M') : am_V p l e R s m args below meth c Q P B D Z mi k0 n0 pc lv st M := by
  obtain ⟨hx, hb, -⟩ := hC
  unfold am_st at h
  dsimp only at h
  split at h
  · rename_i v r
    by_cases hc : v.category = 2
    · rw [if_pos hc] at h
      cases h
      exact fun H locs ls hR hS hl hk hn => lv_pop2_2 hx hb hdg (by rw [am_cat]; exact hc) (hV H locs ls hR hS hl hk hn)
    · rw [if_neg hc] at h; cases h
  · cases h
theorem am_t_dup2 (hC : am_X P B D Z p R s m args meth c mi) (hdg : decode (am_cc B mi) pc = .ok (.dup2, 1)) (h : am_st P mi (.dup2) pc lv st M = some (pc', lv', st', M'))
    (hV : am_V p l e R s m args below meth c Q P B D Z mi k0 n0 pc' lv' st' M') : am_V p l e R s m args below meth c Q P B D Z mi k0 n0 pc lv st M := by
  obtain ⟨hx, hb, -⟩ := hC
  unfold am_st at h
  dsimp only at h
  split at h
  · rename_i v w r
    by_cases hc : v.category = 1 ∧ w.category = 1
    · rw [if_pos hc] at h
      cases h
      exact fun H locs ls hR hS hl hk hn => lv_dup2_11 hx hb hdg (by rw [am_cat]; exact hc.1) (by rw [am_cat]; exact hc.2) (hV H locs ls hR hS hl hk hn)
    · rw [if_neg hc] at h; cases h
  · cases h
theorem am_t_dup_x1 (hC : am_X P B D Z p R s m args meth c mi) (hdg : decode (am_cc B mi) pc = .ok (.dup_x1, 1)) (h : am_st P mi (.dup_x1) pc lv st M = some (pc', lv', st', M'))
    (hV : am_V p l e R s m args below meth c Q P B D Z mi k0 n0 pc' lv' st' M') : am_V p l e R s m args below meth c Q P B D Z mi k0 n0 pc lv st M := by
  obtain ⟨hx, hb, -⟩ := hC
  unfold am_st at h
  dsimp only at h
  split at h
  · rename_i v w r
    by_cases hc : v.category = 1 ∧ w.category = 1
    · rw [if_pos hc] at h
      cases h
      exact fun H locs ls hR hS hl hk hn => lv_dup_x1 hx hb hdg (by rw [am_cat]; exact hc.1) (by rw [am_cat]; exact hc.2) (hV H locs ls hR hS hl hk hn)
    · rw [if_neg hc] at h; cases h
  · cases h
theorem am_t_ifnonnull {off : Int} (hC : am_X P B D Z p R s m args meth c mi) (hdg : decode (am_cc B mi) pc = .ok (.ifnonnull off, 3)) (h : am_st P mi (.ifnonnull off) pc lv st M = some (pc', lv', st', M'))
    (hV : am_V p l e R s m args below meth c Q P B D Z mi k0 n0 pc' lv' st' M') : am_V p l e R s m args below meth c Q P B D Z mi k0 n0 pc lv st M := by
  obtain ⟨hx, hb, -⟩ := hC
  unfold am_st at h
  dsimp only at h
  split at h
  · obtain ⟨ht, rfl, rfl, rfl⟩ := am_go_inv h
    exact fun H locs ls hR hS hl hk hn => lv_ifnonnull hx hb hdg ht (hV H locs ls hR hS hl hk hn)
  · cases h
    exact fun H locs ls hR hS hl hk hn => lv_ifnonnullN hx hb hdg (hV H locs ls hR hS hl hk hn)
  · cases h
theorem am_t_ifnull {off : Int} (hC : am_X P B D Z p R s m args meth c mi) (hdg : decode (am_cc B mi) pc = .ok (.ifnull off, 3)) (h : am_st P mi (.ifnull off) pc lv st M = some (pc', lv', st', M'))
    (hV : am_V p l e R s m args below meth c Q P B D Z mi k0 n0 pc' lv' st' M') : am_V p l e R s m args below meth c Q P B D Z mi k0 n0 pc lv st M := by
  obtain ⟨hx, hb, -⟩ := hC
  unfold am_st at h
  dsimp only at h
  split at h
  · cases h
    exact fun H locs ls hR hS hl hk hn => lv_ifnull hx hb hdg (hV H locs ls hR hS hl hk hn)
  · obtain ⟨ht, rfl, rfl, rfl⟩ := am_go_inv h
    exact fun H locs ls hR hS hl hk hn => lv_ifnullN hx hb hdg ht (hV H locs ls hR hS hl hk hn)
  · cases h
theorem am_t_goto {off : Int} (hC : am_X P B D Z p R s m args meth c mi) (hdg : decode (am_cc B mi) pc = .ok (.goto off, 3)) (h : am_st P mi (.goto off) pc lv st M = some (pc', lv', st', M'))
    (hV : am_V p l e R s m args below meth c Q P B D Z mi k0 n0 pc' lv' st' M') : am_V p l e R s m args below meth c Q P B D Z mi k0 n0 pc lv st M := by
  obtain ⟨hx, hb, -⟩ := hC
  obtain ⟨ht, rfl, rfl, rfl⟩ := am_go_inv h
  exact fun H locs ls hR hS hl hk hn => lv_goto hx hb hdg ht (hV H locs ls hR hS hl hk hn)
theorem am_t_tableswitch {d lo hi : Int} {offs : Array Int} (hC : am_X P B D Z p R s m args meth c mi) (hdg : decode (am_cc B mi) pc = .ok (.tableswitch d lo hi offs, len)) (h : am_st P mi (.tableswitch d lo hi offs) pc lv st M = some (pc', lv', st', M'))
    (hV : am_V p l e R s m args below meth c Q P B D Z mi k0 n0 pc' lv' st' M') : am_V p l e R s m args below meth c Q P B D Z mi k0 n0 pc lv st M := by
  obtain ⟨hx, hb, -⟩ := hC
  unfold am_st at h
  dsimp only at h
  split at h
  · rename_i x r
    cases hk0 : am_swk x lo hi offs with
    | false => rw [hk0] at h; cases h
    | true =>
      rw [hk0] at h
      obtain ⟨ht, rfl, rfl, rfl⟩ := am_go_inv h
      intro H locs ls hR hS hl hk hn
      have K := hV H locs ls hR hS hl hk hn
      unfold am_sw at ht
      by_cases hc : x.toInt < lo ∨ hi < x.toInt
      · rw [if_pos hc] at ht
        exact lv_tableOut hx hb hdg hc ht K
      · rw [if_neg hc] at ht
        have h3 : (offs[(x.toInt - lo).toNat]?).isSome = true := by
          simp only [am_swk, hc, decide_false, Bool.false_or] at hk0
          exact hk0
        obtain ⟨o, ho⟩ := Option.isSome_iff_exists.mp h3
        rw [ho] at ht
        exact lv_tableIn hx hb hdg (fun q => hc (Or.inl q)) (fun q => hc (Or.inr q)) ho ht K
  · cases h
end AMV
