/-! ===== at_st_ok: THE LOOKER'S STEP IS A STEP ===== -/
section ATA
variable {X : fl_M → Prop} {m0 m : fl_M} {ν ν' : Nat → Int} {S : at_S} {lv : at_L} {st r : List at_V} {fl : fl_L} {fs : List fl_V} {L : Nat} {xs : Nat → Int32} {mi pc : Nat}
/-- two ints, one int -/
theorem at_2i {g : Int32 → Int32 → Int32} {f : at_P → at_A → at_A → at_P × at_A} {pc' : Nat} {alts : List at_N} {a b : at_A} (h : at_G X m0 m ν S lv (.inl b :: .inl a :: r) fl fs) (hf : ∀ x y : Int32, at_wf S.1.1.length a → at_wf S.1.1.length b → x.toInt = at_ev ν a → y.toInt = at_ev ν b → at_Sp ν S.1 (f S.1 a b) (g x y).toInt) (e : at_i pc' S lv r (f S.1 a b) = some alts) : ∃ (x y : Int32) (s : List fl_V), fs = .inl y :: .inl x :: s ∧ x.toInt = at_ev ν a ∧ y.toInt = at_ev ν b ∧ at_Nx X m0 ν S.1.1.length alts (pc', fl, .inl (g x y) :: s, m) := by
  obtain ⟨v0, s0, rfl, ⟨y, rfl, ey⟩, hw0, hG0⟩ := h.pop
  obtain ⟨v1, s1, rfl, ⟨x, rfl, ex⟩, hw1, hG1⟩ := hG0.pop
  exact ⟨x, y, s1, rfl, ex, ey, at_i_ok hG1 (hf x y hw1 hw0 ex ey) e⟩
theorem at_2j {g : Int64 → Int64 → Int64} {f : at_P → at_A → at_A → at_P × at_A} {pc' : Nat} {alts : List at_N} {a b : at_A} (h : at_G X m0 m ν S lv (.inr (.inl b) :: .inr (.inl a) :: r) fl fs) (hf : ∀ x y : Int64, at_wf S.1.1.length a → at_wf S.1.1.length b → x.toInt = at_ev ν a → y.toInt = at_ev ν b → at_Sp ν S.1 (f S.1 a b) (g x y).toInt) (e : at_j pc' S lv r (f S.1 a b) = some alts) : ∃ (x y : Int64) (s : List fl_V), fs = .inr (.inl y) :: .inr (.inl x) :: s ∧ x.toInt = at_ev ν a ∧ y.toInt = at_ev ν b ∧ at_Nx X m0 ν S.1.1.length alts (pc', fl, .inr (.inl (g x y)) :: s, m) := by
  obtain ⟨v0, s0, rfl, ⟨y, rfl, ey⟩, hw0, hG0⟩ := h.pop
  obtain ⟨v1, s1, rfl, ⟨x, rfl, ex⟩, hw1, hG1⟩ := hG0.pop
  exact ⟨x, y, s1, rfl, ex, ey, at_j_ok hG1 (hf x y hw1 hw0 ex ey) e⟩
theorem at_II {pc' : Nat} {alts : List at_N} {a b : at_A} {f : at_P → at_A → at_A → at_P × at_A} {g : Int32 → Int32 → Int32} (h : at_G X m0 m ν S lv (.inl b :: .inl a :: r) fl fs) (hf : ∀ x y : Int32, at_wf S.1.1.length a → at_wf S.1.1.length b → x.toInt = at_ev ν a → y.toInt = at_ev ν b → at_Sp ν S.1 (f S.1 a b) (g x y).toInt) (e : at_i (pc + 1) S lv r (f S.1 a b) = some alts) : ∃ c, fl_I pc fl fs m g = some c ∧ at_Nx X m0 ν S.1.1.length alts c := by
  obtain ⟨x, y, s, rfl, -, -, hN⟩ := at_2i h hf e
  exact ⟨_, rfl, hN⟩
theorem at_JJ {pc' : Nat} {alts : List at_N} {a b : at_A} {f : at_P → at_A → at_A → at_P × at_A} {g : Int64 → Int64 → Int64} (h : at_G X m0 m ν S lv (.inr (.inl b) :: .inr (.inl a) :: r) fl fs) (hf : ∀ x y : Int64, at_wf S.1.1.length a → at_wf S.1.1.length b → x.toInt = at_ev ν a → y.toInt = at_ev ν b → at_Sp ν S.1 (f S.1 a b) (g x y).toInt) (e : at_j (pc + 1) S lv r (f S.1 a b) = some alts) : ∃ c, fl_J pc fl fs m g = some c ∧ at_Nx X m0 ν S.1.1.length alts c := by
  obtain ⟨x, y, s, rfl, -, -, hN⟩ := at_2j h hf e
  exact ⟨_, rfl, hN⟩
/-- a step of the looker -/
def at_Ok (X : fl_M → Prop) (m0 m : fl_M) (ν : Nat → Int) (S : at_S) (alts : List at_N) (o : Option fl_C) : Prop := ∃ c, o = some c ∧ at_Nx X m0 ν S.1.1.length alts c
theorem at_st_ok (hX : at_XX X) {ins : Instr} {alts : List at_N} (h : at_G X m0 m ν S lv st fl fs) (e : at_st mi ins pc S lv st = some alts) : at_Ok X m0 m ν S alts (fl_st (pw_P L xs) mi ins pc fl fs m) := by
  have hK := h.1.1
  cases ins
  all_goals first | (cases e; done) | skip
  case iconst n => exact ⟨_, rfl, at_i_ok h (at_Sp.c hK _) e⟩
  case bipush n => exact ⟨_, rfl, at_i_ok h (at_Sp.c hK _) e⟩
  case sipush n => exact ⟨_, rfl, at_i_ok h (at_Sp.c hK _) e⟩
  case lconst n => exact ⟨_, rfl, at_j_ok h (at_Sp.c hK _) e⟩
  case ldc i =>
    dsimp only [at_st] at e
    split at e
    · rename_i v ev
      refine ⟨(pc + 2, fl, .inl v :: fs, m), ?_, at_i_ok h (at_Sp.c hK _) e⟩
      show (match pw_con (pw_own mi) i with | some (.int v) => (some (pc + 2, fl, (Sum.inl v : fl_V) :: fs, m) : Option fl_C) | _ => none) = _
      rw [ev]
    · cases e
  case ldc_w i =>
    dsimp only [at_st] at e
    split at e
    · rename_i v ev
      refine ⟨(pc + 3, fl, .inl v :: fs, m), ?_, at_i_ok h (at_Sp.c hK _) e⟩
      show (match pw_con (pw_own mi) i with | some (.int v) => (some (pc + 3, fl, (Sum.inl v : fl_V) :: fs, m) : Option fl_C) | _ => none) = _
      rw [ev]
    · cases e
  case ldc2_w i =>
    dsimp only [at_st] at e
    split at e
    · rename_i v ev
      refine ⟨(pc + 3, fl, .inr (.inl v) :: fs, m), ?_, at_j_ok h (at_Sp.c hK _) e⟩
      show (match pw_con (pw_own mi) i with | some (.long v) => (some (pc + 3, fl, (Sum.inr (Sum.inl v) : fl_V) :: fs, m) : Option fl_C) | _ => none) = _
      rw [ev]
    · cases e
  case iload_n k => exact at_pu_ok h e
  case lload_n k => exact at_pu_ok h e
  case aload_n k => exact at_pu_ok h e
  case iload k => exact at_pu_ok h e
  case lload k => exact at_pu_ok h e
  case aload k => exact at_pu_ok h e
  case istore_n k => exact at_so_ok h e
  case lstore_n k => exact at_so_ok h e
  case astore_n k => exact at_so_ok h e
  case istore k => exact at_so_ok h e
  case lstore k => exact at_so_ok h e
  case astore k => exact at_so_ok h e
  case iinc i n =>
    dsimp only [at_st] at e
    split at e
    · rename_i a ea
      obtain ⟨hb, e⟩ := am_bif e
      cases e
      have hi : i < pw_mxl mi := by unfold Nat.blt at hb; exact Nat.le_of_ble_eq_true hb
      obtain ⟨v, e1, x, rfl, ex⟩ := h.2.1.2 _ _ ea
      have wa : at_wf S.1.1.length a := h.2.2.1 _ (List.mem_of_getElem? ea)
      obtain ⟨k1, k2⟩ := at_i32' (x + Int32.ofInt n)
      obtain ⟨ν1, hx, hw, hv⟩ := at_fx_ok hK (a := at_add a (at_c (Int32.ofInt n).toInt)) (at_wf_add wa at_wf_c) k1 k2 (fun q1 q2 => by
        rw [at_ev_add, at_ev_c, ← ex] at q1 q2 ⊢
        rw [Int32.toInt_add]
        exact at_b32 q1 q2)
      refine ⟨(pc + 3, fl_s fl i (.inl (x + Int32.ofInt n)), fs, m), ?_, at_Nx.one (by rfl) hx.1 hx.2.1 (at_G.set (a := Sum.inl _) (v := Sum.inl _) (h.ext hx) ⟨_, rfl, hv.symm⟩ hw)⟩
      show (match fl[(i : Nat)]? with | some (some (.inl x)) => (if i < pw_mxl mi then some (pc + 3, fl_s fl i (.inl (x + Int32.ofInt n)), fs, m) else none) | _ => none) = _
      rw [e1]
      dsimp only
      rw [if_pos hi]
    · cases e
  case iadd =>
    dsimp only [at_st] at e
    split at e
    · refine at_II (f := fun P a b => at_fx P (at_add a b) at_m4 at_x4) (g := (· + ·)) (pc' := 0) h (fun x y wa wb ex ey => ?_) e
      obtain ⟨k1, k2⟩ := at_i32' (x + y)
      refine at_fx_ok hK (at_wf_add wa wb) k1 k2 (fun q1 q2 => ?_)
      rw [at_ev_add, ← ex, ← ey] at q1 q2 ⊢
      rw [Int32.toInt_add]
      exact at_b32 q1 q2
    · cases e
  case isub =>
    dsimp only [at_st] at e
    split at e
    · refine at_II (f := fun P a b => at_fx P (at_sub a b) at_m4 at_x4) (g := (· - ·)) (pc' := 0) h (fun x y wa wb ex ey => ?_) e
      obtain ⟨k1, k2⟩ := at_i32' (x - y)
      refine at_fx_ok hK (at_wf_sub wa wb) k1 k2 (fun q1 q2 => ?_)
      rw [at_ev_sub, ← ex, ← ey] at q1 q2 ⊢
      rw [Int32.toInt_sub]
      exact at_b32 q1 q2
    · cases e
  case imul =>
    dsimp only [at_st] at e
    split at e
    · refine at_II (f := fun P a b => at_ml P a b at_m4 at_x4) (g := (· * ·)) (pc' := 0) h (fun x y wa wb ex ey => ?_) e
      obtain ⟨k1, k2⟩ := at_i32' (x * y)
      refine at_ml_ok hK wa wb k1 k2 (fun q1 q2 => ?_)
      rw [← ex, ← ey] at q1 q2 ⊢
      rw [Int32.toInt_mul]
      exact at_b32 q1 q2
    · cases e
  case iand =>
    dsimp only [at_st] at e
    split at e
    · refine at_II (f := fun P a b => at_an P a b at_m4 at_x4) (g := (· &&& ·)) (pc' := 0) h (fun x y wa wb ex ey => ?_) e
      obtain ⟨k1, k2⟩ := at_i32' (x &&& y)
      refine at_an_ok hK wa wb k1 k2 (fun q => ?_) (fun q => ?_)
      · rw [← ex] at q ⊢; exact at_and32' q
      · rw [← ey] at q ⊢; exact at_and32 q
    · cases e
  case ishl =>
    dsimp only [at_st] at e
    split at e
    · exact at_II (f := fun P a b => at_sh P a b) (g := fun x y => x <<< (y &&& 31)) (pc' := 0) h (fun x y wa wb ex ey => at_sh_ok hK ex ey) e
    · cases e
  case ior =>
    dsimp only [at_st] at e
    split at e
    · exact at_II (f := fun P a b => at_fr P at_m4 at_x4) (g := (· ||| ·)) (pc' := 0) h (fun x y wa wb ex ey => at_fr_ok hK (at_i32' _).1 (at_i32' _).2) e
    · cases e
  case ixor =>
    dsimp only [at_st] at e
    split at e
    · exact at_II (f := fun P a b => at_fr P at_m4 at_x4) (g := (· ^^^ ·)) (pc' := 0) h (fun x y wa wb ex ey => at_fr_ok hK (at_i32' _).1 (at_i32' _).2) e
    · cases e
  case ishr =>
    dsimp only [at_st] at e
    split at e
    · exact at_II (f := fun P a b => at_fr P at_m4 at_x4) (g := fun x y => x >>> (y &&& 31)) (pc' := 0) h (fun x y wa wb ex ey => at_fr_ok hK (at_i32' _).1 (at_i32' _).2) e
    · cases e
  case iushr =>
    dsimp only [at_st] at e
    split at e
    · exact at_II (f := fun P a b => at_fr P at_m4 at_x4) (g := fun x y => (x.toUInt32 >>> (y.toUInt32 &&& Int32.toUInt32 31)).toInt32) (pc' := 0) h (fun x y wa wb ex ey => at_fr_ok hK (at_i32' _).1 (at_i32' _).2) e
    · cases e
  case idiv =>
    dsimp only [at_st] at e
    split at e
    · rename_i b a r
      split at e
      · rename_i q eq
        obtain ⟨v0, s0, rfl, ⟨y, rfl, ey⟩, hw0, hG0⟩ := h.pop
        obtain ⟨v1, s1, rfl, ⟨x, rfl, ex⟩, hw1, hG1⟩ := hG0.pop
        obtain ⟨k1, k2⟩ := at_i32' (x / y)
        obtain ⟨hn, hs⟩ := at_dv_ok hK hw1 hw0 eq k1 k2 (fun q1 q2 => by
          rw [← ex, ← ey] at q1 q2 ⊢
          rw [Int32.toInt_div]
          exact at_b32 q1 q2) (by rw [← ex]; exact (at_i32' x).2) (by decide)
        have hy : y ≠ 0 := by rintro rfl; exact hn ey.symm
        refine ⟨(pc + 1, fl, .inl (x / y) :: s1, m), ?_, at_i_ok hG1 hs e⟩
        show (if y = 0 then none else _) = _
        rw [if_neg hy]
      · cases e
    · cases e
  case irem =>
    dsimp only [at_st] at e
    split at e
    · rename_i b a r
      split at e
      · rename_i q eq
        obtain ⟨v0, s0, rfl, ⟨y, rfl, ey⟩, hw0, hG0⟩ := h.pop
        obtain ⟨v1, s1, rfl, ⟨x, rfl, ex⟩, hw1, hG1⟩ := hG0.pop
        obtain ⟨k1, k2⟩ := at_i32' (x - (x / y) * y)
        obtain ⟨hn, hs⟩ := at_rm_ok hK eq k1 k2 (fun q1 q2 => by
          rw [← ex, ← ey] at q1 q2 ⊢
          exact at_rem32 q1 q2)
        have hy : y ≠ 0 := by rintro rfl; exact hn ey.symm
        refine ⟨(pc + 1, fl, .inl (x - (x / y) * y) :: s1, m), ?_, at_i_ok hG1 hs e⟩
        show (if y = 0 then none else _) = _
        rw [if_neg hy]
      · cases e
    · cases e
  case ineg =>
    dsimp only [at_st] at e
    split at e
    · rename_i a r
      obtain ⟨v0, s0, rfl, ⟨x, rfl, ex⟩, hw0, hG0⟩ := h.pop
      obtain ⟨k1, k2⟩ := at_i32' (-x)
      refine ⟨(pc + 1, fl, .inl (-x) :: s0, m), rfl, at_i_ok hG0 (at_fx_ok hK (at_wf_mul hw0) k1 k2 (fun q1 q2 => ?_)) e⟩
      rw [at_ev_mul, ← ex] at q1 q2 ⊢
      rw [Int32.toInt_neg, Int.neg_one_mul]
      rw [Int.neg_one_mul] at q1 q2
      exact at_b32 q1 q2
    · cases e
  case ladd =>
    dsimp only [at_st] at e
    split at e
    · refine at_JJ (f := fun P a b => at_fx P (at_add a b) at_m8 at_x8) (g := (· + ·)) (pc' := 0) h (fun x y wa wb ex ey => ?_) e
      obtain ⟨k1, k2⟩ := at_i64 (x + y)
      refine at_fx_ok hK (at_wf_add wa wb) k1 k2 (fun q1 q2 => ?_)
      rw [at_ev_add, ← ex, ← ey] at q1 q2 ⊢
      rw [Int64.toInt_add]
      exact at_b64 q1 q2
    · cases e
  case lsub =>
    dsimp only [at_st] at e
    split at e
    · refine at_JJ (f := fun P a b => at_fx P (at_sub a b) at_m8 at_x8) (g := (· - ·)) (pc' := 0) h (fun x y wa wb ex ey => ?_) e
      obtain ⟨k1, k2⟩ := at_i64 (x - y)
      refine at_fx_ok hK (at_wf_sub wa wb) k1 k2 (fun q1 q2 => ?_)
      rw [at_ev_sub, ← ex, ← ey] at q1 q2 ⊢
      rw [Int64.toInt_sub]
      exact at_b64 q1 q2
    · cases e
  case lmul =>
    dsimp only [at_st] at e
    split at e
    · refine at_JJ (f := fun P a b => at_ml P a b at_m8 at_x8) (g := (· * ·)) (pc' := 0) h (fun x y wa wb ex ey => ?_) e
      obtain ⟨k1, k2⟩ := at_i64 (x * y)
      refine at_ml_ok hK wa wb k1 k2 (fun q1 q2 => ?_)
      rw [← ex, ← ey] at q1 q2 ⊢
      rw [Int64.toInt_mul]
      exact at_b64 q1 q2
    · cases e
  case land =>
    dsimp only [at_st] at e
    split at e
    · exact at_JJ (f := fun P a b => at_fr P at_m8 at_x8) (g := (· &&& ·)) (pc' := 0) h (fun x y wa wb ex ey => at_fr_ok hK (at_i64 _).1 (at_i64 _).2) e
    · cases e
  case ldiv =>
    dsimp only [at_st] at e
    split at e
    · rename_i b a r
      split at e
      · rename_i q eq
        obtain ⟨v0, s0, rfl, ⟨y, rfl, ey⟩, hw0, hG0⟩ := h.pop
        obtain ⟨v1, s1, rfl, ⟨x, rfl, ex⟩, hw1, hG1⟩ := hG0.pop
        obtain ⟨k1, k2⟩ := at_i64 (x / y)
        obtain ⟨hn, hs⟩ := at_dv_ok hK hw1 hw0 eq k1 k2 (fun q1 q2 => by
          rw [← ex, ← ey] at q1 q2 ⊢
          rw [Int64.toInt_div]
          exact at_b64 q1 q2) (by rw [← ex]; exact (at_i64 x).2) (by decide)
        have hy : y ≠ 0 := by rintro rfl; exact hn ey.symm
        refine ⟨(pc + 1, fl, .inr (.inl (x / y)) :: s1, m), ?_, at_j_ok hG1 hs e⟩
        show (if y = 0 then none else _) = _
        rw [if_neg hy]
      · cases e
    · cases e
  case lshl =>
    dsimp only [at_st] at e
    split at e
    · obtain ⟨v0, s0, rfl, ⟨y, rfl, ey⟩, hw0, hG0⟩ := h.pop
      obtain ⟨v1, s1, rfl, ⟨x, rfl, ex⟩, hw1, hG1⟩ := hG0.pop
      exact ⟨_, rfl, at_j_ok hG1 (at_fr_ok hK (at_i64 _).1 (at_i64 _).2) e⟩
    · cases e
  case lshr =>
    dsimp only [at_st] at e
    split at e
    · obtain ⟨v0, s0, rfl, ⟨y, rfl, ey⟩, hw0, hG0⟩ := h.pop
      obtain ⟨v1, s1, rfl, ⟨x, rfl, ex⟩, hw1, hG1⟩ := hG0.pop
      exact ⟨_, rfl, at_j_ok hG1 (at_fr_ok hK (at_i64 _).1 (at_i64 _).2) e⟩
    · cases e
  case lcmp =>
    dsimp only [at_st] at e
    split at e
    · rename_i b a r
      cases e
      obtain ⟨v0, s0, rfl, ⟨y, rfl, ey⟩, hw0, hG0⟩ := h.pop
      obtain ⟨v1, s1, rfl, ⟨x, rfl, ex⟩, hw1, hG1⟩ := hG0.pop
      refine ⟨_, rfl, at_Nx.one (by rfl) at_ag.rfl (Nat.le_refl _) (at_G.push (a := .inr (.inr (.inr (.inr (at_sub a b))))) (v := .inl (lg_cmp x y)) hG1 ⟨_, rfl, ?_⟩ (at_wf_sub hw1 hw0))⟩
      rw [at_ev_sub, ← ex, ← ey]
      unfold lg_cmp
      by_cases h1 : x > y
      · rw [if_pos h1]
        have : y.toInt < x.toInt := Int64.lt_iff_toInt_lt.mp h1
        exact Or.inl ⟨rfl, by omega⟩
      · rw [if_neg h1]
        by_cases h2 : x = y
        · rw [if_pos h2]
          exact Or.inr (Or.inl ⟨rfl, by rw [h2]; omega⟩)
        · rw [if_neg h2]
          refine Or.inr (Or.inr ⟨rfl, ?_⟩)
          have h3 : ¬ y.toInt < x.toInt := fun q => h1 (Int64.lt_iff_toInt_lt.mpr q)
          have h4 : x.toInt ≠ y.toInt := fun q => h2 (Int64.toInt.inj q)
          omega
    · cases e
  case i2l =>
    dsimp only [at_st] at e
    split at e
    · rename_i a r
      cases e
      obtain ⟨v0, s0, rfl, ⟨x, rfl, ex⟩, hw0, hG0⟩ := h.pop
      exact ⟨_, rfl, at_Nx.one (by rfl) at_ag.rfl (Nat.le_refl _) (at_G.push (a := .inr (.inl a)) (v := .inr (.inl x.toInt64)) hG0 ⟨_, rfl, by rw [Int32.toInt_toInt64]; exact ex⟩ hw0)⟩
    · cases e
  case l2i =>
    dsimp only [at_st] at e
    split at e
    · rename_i a r
      obtain ⟨v0, s0, rfl, ⟨x, rfl, ex⟩, hw0, hG0⟩ := h.pop
      obtain ⟨k1, k2⟩ := at_i32' x.toInt32
      refine ⟨(pc + 1, fl, .inl x.toInt32 :: s0, m), rfl, at_i_ok hG0 (at_fx_ok hK hw0 k1 k2 (fun q1 q2 => ?_)) e⟩
      rw [← ex] at q1 q2 ⊢
      rw [Int64.toInt_toInt32]
      exact at_b32 q1 q2
    · cases e
  case dup =>
    dsimp only [at_st] at e
    split at e
    · rename_i a r
      obtain ⟨hb, e⟩ := am_bif e
      cases e
      obtain ⟨v0, s0, rfl, hv, hw, hG⟩ := h.pop
      refine ⟨(pc + 1, fl, v0 :: v0 :: s0, m), ?_, at_Nx.one (by rfl) at_ag.rfl (Nat.le_refl _) (h.push hv hw)⟩
      show (if fl_cat v0 = 1 then _ else none) = _
      rw [hv.cat, if_pos (Nat.eq_of_beq_eq_true hb)]
    · cases e
  case pop =>
    dsimp only [at_st] at e
    split at e
    · rename_i a r
      obtain ⟨hb, e⟩ := am_bif e
      cases e
      obtain ⟨v0, s0, rfl, hv, hw, hG⟩ := h.pop
      refine ⟨(pc + 1, fl, s0, m), ?_, at_Nx.one (by rfl) at_ag.rfl (Nat.le_refl _) hG⟩
      show (if fl_cat v0 = 1 then _ else none) = _
      rw [hv.cat, if_pos (Nat.eq_of_beq_eq_true hb)]
    · cases e
  case pop2 =>
    dsimp only [at_st] at e
    split at e
    · rename_i a r
      obtain ⟨hb, e⟩ := am_bif e
      cases e
      obtain ⟨v0, s0, rfl, hv, hw, hG⟩ := h.pop
      refine ⟨(pc + 1, fl, s0, m), ?_, at_Nx.one (by rfl) at_ag.rfl (Nat.le_refl _) hG⟩
      show (if fl_cat v0 = 2 then _ else none) = _
      rw [hv.cat, if_pos (Nat.eq_of_beq_eq_true hb)]
    · cases e
  case dup2 =>
    dsimp only [at_st] at e
    split at e
    · rename_i a b r
      obtain ⟨hb, e⟩ := am_bif e
      cases e
      simp only [Bool.and_eq_true] at hb
      obtain ⟨v0, s0, rfl, hv, hw, hG⟩ := h.pop
      obtain ⟨v1, s1, rfl, hv1, hw1, hG1⟩ := hG.pop
      refine ⟨(pc + 1, fl, v0 :: v1 :: v0 :: v1 :: s1, m), ?_, at_Nx.one (by rfl) at_ag.rfl (Nat.le_refl _) ((h.push hv1 hw1).push hv hw)⟩
      show (if fl_cat v0 = 1 ∧ fl_cat v1 = 1 then _ else none) = _
      rw [hv.cat, hv1.cat, if_pos ⟨Nat.eq_of_beq_eq_true hb.1, Nat.eq_of_beq_eq_true hb.2⟩]
    · cases e
  case ifCond c off =>
    dsimp only [at_st] at e
    split at e
    · obtain ⟨v0, s0, rfl, ⟨x, rfl, ex⟩, hw, hG⟩ := h.pop
      exact at_br_ok hG hw (by rw [at_c1, ex]) e
    · obtain ⟨v0, s0, rfl, ⟨x, rfl, ex⟩, hw, hG⟩ := h.pop
      exact at_br_ok hG hw (at_c3 c ex) e
    · cases e
  case if_icmp c off =>
    dsimp only [at_st] at e
    split at e
    · obtain ⟨v0, s0, rfl, ⟨y, rfl, ey⟩, hw0, hG0⟩ := h.pop
      obtain ⟨v1, s1, rfl, ⟨x, rfl, ex⟩, hw1, hG1⟩ := hG0.pop
      exact at_br_ok hG1 (at_wf_sub hw1 hw0) (by rw [at_c2, at_ev_sub, ex, ey]) e
    · cases e
  case goto off =>
    dsimp only [at_st] at e
    split at e
    · rename_i t et
      cases e
      refine ⟨(t, fl, fs, m), ?_, at_Nx.one (by rfl) at_ag.rfl (Nat.le_refl _) h⟩
      show fl_go pc off fl fs m = _
      unfold fl_go
      rw [et]
    · cases e
  case tableswitch d lo hi offs =>
    dsimp only [at_st] at e
    split at e
    · obtain ⟨v0, s0, rfl, ⟨x, rfl, ex⟩, hw, hG⟩ := h.pop
      exact at_ts_ok hG hw ex e
    · cases e
  case getfield i => exact at_gf_ok h e
  case putfield i => exact at_pf_ok2 hX h e
  case getstatic i =>
    dsimp only [at_st] at e
    split at e
    · rename_i c ec
      cases e
      refine ⟨(pc + 3, fl, .inr (.inr (.inr (.inl c))) :: fs, m), ?_, at_Nx.one (by rfl) at_ag.rfl (Nat.le_refl _) (at_G.push (a := .inr (.inr (.inr (.inl c)))) (v := .inr (.inr (.inr (.inl c)))) h rfl True.intro)⟩
      show (match pw_sta (pw_own mi) i with | some c => (some (pc + 3, fl, (.inr (.inr (.inr (.inl c))) : fl_V) :: fs, m) : Option fl_C) | none => none) = _
      rw [ec]
    · cases e
  case iaload => exact at_ald_ok h e
  case iastore => exact at_ast_ok hX h e
  case laload => exact at_lald_ok h e
  case lastore => exact at_last_ok hX h e
  case aaload => exact at_qald_ok h e
  case arraylength => exact at_len_ok h e
  case invokestatic i =>
    dsimp only [at_st] at e
    split at e
    · rename_i en
      obtain ⟨c, e1, e2⟩ := at_cpy_ok hX h e
      refine ⟨c, ?_, e2⟩
      show (match am_ntk (pw_P L xs) mi (.invokestatic i) with | some 1 => fl_n1 pc fl fs m | _ => none) = _
      have : am_ntk (pw_P L xs) mi (.invokestatic i) = some 1 := by
        show (match pw_nat mi i with | some 1 => some 1 | some 3 => some 3 | some 4 => some 4 | _ => none) = _
        rw [en]
        rfl
      rw [this]
      exact e1
    · cases e
end ATA
