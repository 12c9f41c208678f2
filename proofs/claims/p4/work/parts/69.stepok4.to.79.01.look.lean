/-! 69.stepok4.lean.txt -/
section
/-! ===== at_st_ok: THE LOOKER'S STEP IS A STEP ===== -/
section ATA
variable {X : fl_M → Prop} {m0 m : fl_M} {ν ν' : Nat → Int} {S : at_S} {lv : at_L} {st r : List at_V} {fl : fl_L} {fs : List fl_V} {L : Nat} {xs : Nat → Int32} {mi pc : Nat}
/-- two ints, one int -/
theorem at_2i {g : Int32 → Int32 → Int32} {f : at_P → at_A → at_A → at_P × at_A} {pc' : Nat} {alts : List at_N} {a b : at_A} (h : at_G X m0 m ν S lv (.inl b :: .inl a :: r) fl fs) (hf : ∀ x y : Int32, at_wf S.1.1.length a → at_wf S.1.1.length b → x.toInt = at_ev ν a → y.toInt = at_ev ν b → at_Sp ν S.1 (f S.1 a b) (g x y).toInt) (e : at_i pc' S lv r (f S.1 a b) = some alts) : ∃ (x y : Int32) (s : List fl_V), fs = .inl y :: .inl x :: s ∧ x.toInt = at_ev ν a ∧ y.toInt = at_ev ν b ∧ at_Nx X m0 ν S.1.1.length alts (pc', fl, .inl (g x y) :: s, m) := by
  obtain ⟨v0, s0, rfl, ⟨y, rfl, ey⟩, hw0, hG0⟩ := h.pop
  obtain ⟨v1, s1, rfl, ⟨x, rfl, ex⟩, hw1, hG1⟩ := hG0.pop
  exact ⟨x, y, s1, rfl, ex, ey, at_i_ok hG1 (hf x y hw1 hw0 ex ey) e⟩
theorem at_2j {g : Int64 → Int64 → Int64} {f : at_P → at_A → at_A → at_P × at_A} {pc' : Nat} {alts : List at_N} {a b : at_A} (h : at_G X m0 m ν S lv (.inr (.inl b) :: .inr (.inl a) :: r) fl fs) (hf : ∀ x y : Int64, at_wf S.1.1.length a → at_wf S.1.1.length b → x.toInt = at_ev ν a → y.toInt = at_ev ν b → at_Sp ν S.1 (f S.1 a b) (g x y).toInt) (e : at_j pc' S lv r (f S.1 a b) = some alts) : ∃ (x y : Int64) (s : List fl_V), fs = .inr (.inl y) :: .inr (.inl x) :: s ∧ x.toInt = at_ev ν a ∧ y.toInt = at_ev ν b ∧ at_Nx X m0 ν S.1.1.length alts (pc', fl, .inr (.inl (g x y)) :: s, m) := by
  obtain ⟨v0, s0, rfl, ⟨y, rfl, ey⟩, hw0, hG0⟩ := h.pop
  obtain ⟨v1, s1, rfl, ⟨x, rfl, ex⟩, hw1, hG1⟩ := hG0.pop
  exact ⟨x, y, s1, rfl, ex, ey, at_j_ok hG1 (hf x y hw1 hw0 ex ey) e⟩
theorem at_II {pc' : Nat} {alts : List at_N} {a b : at_A} {f : at_P → at_A → at_A → at_P × at_A} {g : Int32 → Int32 → Int32} (h : at_G X m0 m ν S lv (.inl b :: .inl a :: r) fl fs) (hf : ∀ x y : Int32, at_wf S.1.1.length a → at_wf S.1.1.length b → x.toInt = at_ev ν a → y.toInt = at_ev ν b → at_Sp ν S.1 (f S.1 a b) (g x y).toInt) (e : at_i (pc + 1) S lv r (f S.1 a b) = some alts) : ∃ c, fl_I pc fl fs m g = some c ∧ at_Nx X m0 ν S.1.1.length alts c := by
  obtain ⟨x, y, s, rfl, -, -, hN⟩ := at_2i h hf e
  exact ⟨_, rfl, hN⟩
theorem at_JJ {pc' : Nat} {alts : List at_N} {a b : at_A} {f : at_P → at_A → at_A → at_P × at_A} {g : Int64 → Int64 → Int64} (h : at_G X m0 m ν S lv (.inr (.inl b) :: .inr (.inl a) :: r) fl fs) (hf : ∀ x y : Int64, at_wf S.1.1.length a → at_wf S.1.1.length b → x.toInt = at_ev ν a → y.toInt = at_ev ν b → at_Sp ν S.1 (f S.1 a b) (g x y).toInt) (e : at_j (pc + 1) S lv r (f S.1 a b) = some alts) : ∃ c, fl_J pc fl fs m g = some c ∧ at_Nx X m0 ν S.1.1.length alts c := by
  obtain ⟨x, y, s, rfl, -, -, hN⟩ := at_2j h hf e
  exact ⟨_, rfl, hN⟩
/-- a step of the looker -/
def at_Ok (X : fl_M → Prop) (m0 m : fl_M) (ν : Nat → Int) (S : at_S) (alts : List at_N) (o : Option fl_C) : Prop := ∃ c, o = some c ∧ at_Nx X m0 ν S.1.1.length alts c
theorem at_st_ok (hX : at_XX X) {ins : Instr} {alts : List at_N} (h : at_G X m0 m ν S lv st fl fs) (e : at_st mi ins pc S lv st = some alts) : at_Ok X m0 m ν S alts (fl_st (pw_P L xs) mi ins pc fl fs m) := by
  have hK := h.1.1
  cases ins
  all_goals first | (cases e; done) | skip
  case iconst n => exact ⟨_, rfl, at_i_ok h (at_Sp.c hK _) e⟩
  case bipush n => exact ⟨_, rfl, at_i_ok h (at_Sp.c hK _) e⟩
  case sipush n => exact ⟨_, rfl, at_i_ok h (at_Sp.c hK _) e⟩
  case lconst n => exact ⟨_, rfl, at_j_ok h (at_Sp.c hK _) e⟩
  case ldc i =>
    dsimp only [at_st] at e
    split at e
    · rename_i v ev
      refine ⟨(pc + 2, fl, .inl v :: fs, m), ?_, at_i_ok h (at_Sp.c hK _) e⟩
      show (match pw_con (pw_own mi) i with | some (.int v) => (some (pc + 2, fl, (Sum.inl v : fl_V) :: fs, m) : Option fl_C) | _ => none) = _
      rw [ev]
    · cases e
  case ldc_w i =>
    dsimp only [at_st] at e
    split at e
    · rename_i v ev
      refine ⟨(pc + 3, fl, .inl v :: fs, m), ?_, at_i_ok h (at_Sp.c hK _) e⟩
      show (match pw_con (pw_own mi) i with | some (.int v) => (some (pc + 3, fl, (Sum.inl v : fl_V) :: fs, m) : Option fl_C) | _ => none) = _
      rw [ev]
    · cases e
  case ldc2_w i =>
    dsimp only [at_st] at e
    split at e
    · rename_i v ev
      refine ⟨(pc + 3, fl, .inr (.inl v) :: fs, m), ?_, at_j_ok h (at_Sp.c hK _) e⟩
      show (match pw_con (pw_own mi) i with | some (.long v) => (some (pc + 3, fl, (Sum.inr (Sum.inl v) : fl_V) :: fs, m) : Option fl_C) | _ => none) = _
      rw [ev]
    · cases e
  case iload_n k => exact at_pu_ok h e
  case lload_n k => exact at_pu_ok h e
  case aload_n k => exact at_pu_ok h e
  case iload k => exact at_pu_ok h e
  case lload k => exact at_pu_ok h e
  case aload k => exact at_pu_ok h e
  case istore_n k => exact at_so_ok h e
  case lstore_n k => exact at_so_ok h e
  case astore_n k => exact at_so_ok h e
  case istore k => exact at_so_ok h e
  case lstore k => exact at_so_ok h e
  case astore k => exact at_so_ok h e
  case iinc i n =>
    dsimp only [at_st] at e
    split at e
    · rename_i a ea
      obtain ⟨hb, e⟩ := am_bif e
      cases e
      have hi : i < pw_mxl mi := by unfold Nat.blt at hb; exact Nat.le_of_ble_eq_true hb
      obtain ⟨v, e1, x, rfl, ex⟩ := h.2.1.2 _ _ ea
      have wa : at_wf S.1.1.length a := h.2.2.1 _ (List.mem_of_getElem? ea)
      obtain ⟨k1, k2⟩ := at_i32' (x + Int32.ofInt n)
      obtain ⟨ν1, hx, hw, hv⟩ := at_fx_ok hK (a := at_add a (at_c (Int32.ofInt n).toInt)) (at_wf_add wa at_wf_c) k1 k2 (fun q1 q2 => by
        rw [at_ev_add, at_ev_c, ← ex] at q1 q2 ⊢
        rw [Int32.toInt_add]
        exact at_b32 q1 q2)
      refine ⟨(pc + 3, fl_s fl i (.inl (x + Int32.ofInt n)), fs, m), ?_, at_Nx.one (by rfl) hx.1 hx.2.1 (at_G.set (a := Sum.inl _) (v := Sum.inl _) (h.ext hx) ⟨_, rfl, hv.symm⟩ hw)⟩
      show (match fl[(i : Nat)]? with | some (some (.inl x)) => (if i < pw_mxl mi then some (pc + 3, fl_s fl i (.inl (x + Int32.ofInt n)), fs, m) else none) | _ => none) = _
      rw [e1]
      dsimp only
      rw [if_pos hi]
    · cases e
  case iadd =>
    dsimp only [at_st] at e
    split at e
    · refine at_II (f := fun P a b => at_fx P (at_add a b) at_m4 at_x4) (g := (· + ·)) (pc' := 0) h (fun x y wa wb ex ey => ?_) e
      obtain ⟨k1, k2⟩ := at_i32' (x + y)
      refine at_fx_ok hK (at_wf_add wa wb) k1 k2 (fun q1 q2 => ?_)
      rw [at_ev_add, ← ex, ← ey] at q1 q2 ⊢
      rw [Int32.toInt_add]
      exact at_b32 q1 q2
    · cases e
  case isub =>
    dsimp only [at_st] at e
    split at e
    · refine at_II (f := fun P a b => at_fx P (at_sub a b) at_m4 at_x4) (g := (· - ·)) (pc' := 0) h (fun x y wa wb ex ey => ?_) e
      obtain ⟨k1, k2⟩ := at_i32' (x - y)
      refine at_fx_ok hK (at_wf_sub wa wb) k1 k2 (fun q1 q2 => ?_)
      rw [at_ev_sub, ← ex, ← ey] at q1 q2 ⊢
      rw [Int32.toInt_sub]
      exact at_b32 q1 q2
    · cases e
  case imul =>
    dsimp only [at_st] at e
    split at e
    · refine at_II (f := fun P a b => at_ml P a b at_m4 at_x4) (g := (· * ·)) (pc' := 0) h (fun x y wa wb ex ey => ?_) e
      obtain ⟨k1, k2⟩ := at_i32' (x * y)
      refine at_ml_ok hK wa wb k1 k2 (fun q1 q2 => ?_)
      rw [← ex, ← ey] at q1 q2 ⊢
      rw [Int32.toInt_mul]
      exact at_b32 q1 q2
    · cases e
  case iand =>
    dsimp only [at_st] at e
    split at e
    · refine at_II (f := fun P a b => at_an P a b at_m4 at_x4) (g := (· &&& ·)) (pc' := 0) h (fun x y wa wb ex ey => ?_) e
      obtain ⟨k1, k2⟩ := at_i32' (x &&& y)
      refine at_an_ok hK wa wb k1 k2 (fun q => ?_) (fun q => ?_)
      · rw [← ex] at q ⊢; exact at_and32' q
      · rw [← ey] at q ⊢; exact at_and32 q
    · cases e
  case ishl =>
    dsimp only [at_st] at e
    split at e
    · exact at_II (f := fun P a b => at_sh P a b) (g := fun x y => x <<< (y &&& 31)) (pc' := 0) h (fun x y wa wb ex ey => at_sh_ok hK ex ey) e
    · cases e
  case ior =>
    dsimp only [at_st] at e
    split at e
    · exact at_II (f := fun P a b => at_fr P at_m4 at_x4) (g := (· ||| ·)) (pc' := 0) h (fun x y wa wb ex ey => at_fr_ok hK (at_i32' _).1 (at_i32' _).2) e
    · cases e
  case ixor =>
    dsimp only [at_st] at e
    split at e
    · exact at_II (f := fun P a b => at_fr P at_m4 at_x4) (g := (· ^^^ ·)) (pc' := 0) h (fun x y wa wb ex ey => at_fr_ok hK (at_i32' _).1 (at_i32' _).2) e
    · cases e
  case ishr =>
    dsimp only [at_st] at e
    split at e
    · exact at_II (f := fun P a b => at_fr P at_m4 at_x4) (g := fun x y => x >>> (y &&& 31)) (pc' := 0) h (fun x y wa wb ex ey => at_fr_ok hK (at_i32' _).1 (at_i32' _).2) e
    · cases e
  case iushr =>
    dsimp only [at_st] at e
    split at e
    · exact at_II (f := fun P a b => at_fr P at_m4 at_x4) (g := fun x y => (x.toUInt32 >>> (y.toUInt32 &&& Int32.toUInt32 31)).toInt32) (pc' := 0) h (fun x y wa wb ex ey => at_fr_ok hK (at_i32' _).1 (at_i32' _).2) e
    · cases e
  case idiv =>
    dsimp only [at_st] at e
    split at e
    · rename_i b a r
      split at e
      · rename_i q eq
        obtain ⟨v0, s0, rfl, ⟨y, rfl, ey⟩, hw0, hG0⟩ := h.pop
        obtain ⟨v1, s1, rfl, ⟨x, rfl, ex⟩, hw1, hG1⟩ := hG0.pop
        obtain ⟨k1, k2⟩ := at_i32' (x / y)
        obtain ⟨hn, hs⟩ := at_dv_ok hK hw1 hw0 eq k1 k2 (fun q1 q2 => by
          rw [← ex, ← ey] at q1 q2 ⊢
          rw [Int32.toInt_div]
          exact at_b32 q1 q2) (by rw [← ex]; exact (at_i32' x).2) (by decide)
        have hy : y ≠ 0 := by rintro rfl; exact hn ey.symm
        refine ⟨(pc + 1, fl, .inl (x / y) :: s1, m), ?_, at_i_ok hG1 hs e⟩
        show (if y = 0 then none else _) = _
        rw [if_neg hy]
      · cases e
    · cases e
  case irem =>
    dsimp only [at_st] at e
    split at e
    · rename_i b a r
      split at e
      · rename_i q eq
        obtain ⟨v0, s0, rfl, ⟨y, rfl, ey⟩, hw0, hG0⟩ := h.pop
        obtain ⟨v1, s1, rfl, ⟨x, rfl, ex⟩, hw1, hG1⟩ := hG0.pop
        obtain ⟨k1, k2⟩ := at_i32' (x - (x / y) * y)
        obtain ⟨hn, hs⟩ := at_rm_ok hK eq k1 k2 (fun q1 q2 => by
          rw [← ex, ← ey] at q1 q2 ⊢
          exact at_rem32 q1 q2)
        have hy : y ≠ 0 := by rintro rfl; exact hn ey.symm
        refine ⟨(pc + 1, fl, .inl (x - (x / y) * y) :: s1, m), ?_, at_i_ok hG1 hs e⟩
        show (if y = 0 then none else _) = _
        rw [if_neg hy]
      · cases e
    · cases e
  case ineg =>
    dsimp only [at_st] at e
    split at e
    · rename_i a r
      obtain ⟨v0, s0, rfl, ⟨x, rfl, ex⟩, hw0, hG0⟩ := h.pop
      obtain ⟨k1, k2⟩ := at_i32' (-x)
      refine ⟨(pc + 1, fl, .inl (-x) :: s0, m), rfl, at_i_ok hG0 (at_fx_ok hK (at_wf_mul hw0) k1 k2 (fun q1 q2 => ?_)) e⟩
      rw [at_ev_mul, ← ex] at q1 q2 ⊢
      rw [Int32.toInt_neg, Int.neg_one_mul]
      rw [Int.neg_one_mul] at q1 q2
      exact at_b32 q1 q2
    · cases e
  case ladd =>
    dsimp only [at_st] at e
    split at e
    · refine at_JJ (f := fun P a b => at_fx P (at_add a b) at_m8 at_x8) (g := (· + ·)) (pc' := 0) h (fun x y wa wb ex ey => ?_) e
      obtain ⟨k1, k2⟩ := at_i64 (x + y)
      refine at_fx_ok hK (at_wf_add wa wb) k1 k2 (fun q1 q2 => ?_)
      rw [at_ev_add, ← ex, ← ey] at q1 q2 ⊢
      rw [Int64.toInt_add]
      exact at_b64 q1 q2
    · cases e
  case lsub =>
    dsimp only [at_st] at e
    split at e
    · refine at_JJ (f := fun P a b => at_fx P (at_sub a b) at_m8 at_x8) (g := (· - ·)) (pc' := 0) h (fun x y wa wb ex ey => ?_) e
      obtain ⟨k1, k2⟩ := at_i64 (x - y)
      refine at_fx_ok hK (at_wf_sub wa wb) k1 k2 (fun q1 q2 => ?_)
      rw [at_ev_sub, ← ex, ← ey] at q1 q2 ⊢
      rw [Int64.toInt_sub]
      exact at_b64 q1 q2
    · cases e
  case lmul =>
    dsimp only [at_st] at e
    split at e
    · refine at_JJ (f := fun P a b => at_ml P a b at_m8 at_x8) (g := (· * ·)) (pc' := 0) h (fun x y wa wb ex ey => ?_) e
      obtain ⟨k1, k2⟩ := at_i64 (x * y)
      refine at_ml_ok hK wa wb k1 k2 (fun q1 q2 => ?_)
      rw [← ex, ← ey] at q1 q2 ⊢
      rw [Int64.toInt_mul]
      exact at_b64 q1 q2
    · cases e
  case land =>
    dsimp only [at_st] at e
    split at e
    · exact at_JJ (f := fun P a b => at_fr P at_m8 at_x8) (g := (· &&& ·)) (pc' := 0) h (fun x y wa wb ex ey => at_fr_ok hK (at_i64 _).1 (at_i64 _).2) e
    · cases e
  case ldiv =>
    dsimp only [at_st] at e
    split at e
    · rename_i b a r
      split at e
      · rename_i q eq
        obtain ⟨v0, s0, rfl, ⟨y, rfl, ey⟩, hw0, hG0⟩ := h.pop
        obtain ⟨v1, s1, rfl, ⟨x, rfl, ex⟩, hw1, hG1⟩ := hG0.pop
        obtain ⟨k1, k2⟩ := at_i64 (x / y)
        obtain ⟨hn, hs⟩ := at_dv_ok hK hw1 hw0 eq k1 k2 (fun q1 q2 => by
          rw [← ex, ← ey] at q1 q2 ⊢
          rw [Int64.toInt_div]
          exact at_b64 q1 q2) (by rw [← ex]; exact (at_i64 x).2) (by decide)
        have hy : y ≠ 0 := by rintro rfl; exact hn ey.symm
        refine ⟨(pc + 1, fl, .inr (.inl (x / y)) :: s1, m), ?_, at_j_ok hG1 hs e⟩
        show (if y = 0 then none else _) = _
        rw [if_neg hy]
      · cases e
    · cases e
  case lshl =>
    dsimp only [at_st] at e
    split at e
    · obtain ⟨v0, s0, rfl, ⟨y, rfl, ey⟩, hw0, hG0⟩ := h.pop
      obtain ⟨v1, s1, rfl, ⟨x, rfl, ex⟩, hw1, hG1⟩ := hG0.pop
      exact ⟨_, rfl, at_j_ok hG1 (at_fr_ok hK (at_i64 _).1 (at_i64 _).2) e⟩
    · cases e
  case lshr =>
    dsimp only [at_st] at e
    split at e
    · obtain ⟨v0, s0, rfl, ⟨y, rfl, ey⟩, hw0, hG0⟩ := h.pop
      obtain ⟨v1, s1, rfl, ⟨x, rfl, ex⟩, hw1, hG1⟩ := hG0.pop
      exact ⟨_, rfl, at_j_ok hG1 (at_fr_ok hK (at_i64 _).1 (at_i64 _).2) e⟩
    · cases e
  case lcmp =>
    dsimp only [at_st] at e
    split at e
    · rename_i b a r
      cases e
      obtain ⟨v0, s0, rfl, ⟨y, rfl, ey⟩, hw0, hG0⟩ := h.pop
      obtain ⟨v1, s1, rfl, ⟨x, rfl, ex⟩, hw1, hG1⟩ := hG0.pop
      refine ⟨_, rfl, at_Nx.one (by rfl) at_ag.rfl (Nat.le_refl _) (at_G.push (a := .inr (.inr (.inr (.inr (at_sub a b))))) (v := .inl (lg_cmp x y)) hG1 ⟨_, rfl, ?_⟩ (at_wf_sub hw1 hw0))⟩
      rw [at_ev_sub, ← ex, ← ey]
      unfold lg_cmp
      by_cases h1 : x > y
      · rw [if_pos h1]
        have : y.toInt < x.toInt := Int64.lt_iff_toInt_lt.mp h1
        exact Or.inl ⟨rfl, by omega⟩
      · rw [if_neg h1]
        by_cases h2 : x = y
        · rw [if_pos h2]
          exact Or.inr (Or.inl ⟨rfl, by rw [h2]; omega⟩)
        · rw [if_neg h2]
          refine Or.inr (Or.inr ⟨rfl, ?_⟩)
          have h3 : ¬ y.toInt < x.toInt := fun q => h1 (Int64.lt_iff_toInt_lt.mpr q)
          have h4 : x.toInt ≠ y.toInt := fun q => h2 (Int64.toInt.inj q)
          omega
    · cases e
  case i2l =>
    dsimp only [at_st] at e
    split at e
    · rename_i a r
      cases e
      obtain ⟨v0, s0, rfl, ⟨x, rfl, ex⟩, hw0, hG0⟩ := h.pop
      exact ⟨_, rfl, at_Nx.one (by rfl) at_ag.rfl (Nat.le_refl _) (at_G.push (a := .inr (.inl a)) (v := .inr (.inl x.toInt64)) hG0 ⟨_, rfl, by rw [Int32.toInt_toInt64]; exact ex⟩ hw0)⟩
    · cases e
  case l2i =>
    dsimp only [at_st] at e
    split at e
    · rename_i a r
      obtain ⟨v0, s0, rfl, ⟨x, rfl, ex⟩, hw0, hG0⟩ := h.pop
      obtain ⟨k1, k2⟩ := at_i32' x.toInt32
      refine ⟨(pc + 1, fl, .inl x.toInt32 :: s0, m), rfl, at_i_ok hG0 (at_fx_ok hK hw0 k1 k2 (fun q1 q2 => ?_)) e⟩
      rw [← ex] at q1 q2 ⊢
      rw [Int64.toInt_toInt32]
      exact at_b32 q1 q2
    · cases e
  case dup =>
    dsimp only [at_st] at e
    split at e
    · rename_i a r
      obtain ⟨hb, e⟩ := am_bif e
      cases e
      obtain ⟨v0, s0, rfl, hv, hw, hG⟩ := h.pop
      refine ⟨(pc + 1, fl, v0 :: v0 :: s0, m), ?_, at_Nx.one (by rfl) at_ag.rfl (Nat.le_refl _) (h.push hv hw)⟩
      show (if fl_cat v0 = 1 then _ else none) = _
      rw [hv.cat, if_pos (Nat.eq_of_beq_eq_true hb)]
    · cases e
  case pop =>
    dsimp only [at_st] at e
    split at e
    · rename_i a r
      obtain ⟨hb, e⟩ := am_bif e
      cases e
      obtain ⟨v0, s0, rfl, hv, hw, hG⟩ := h.pop
      refine ⟨(pc + 1, fl, s0, m), ?_, at_Nx.one (by rfl) at_ag.rfl (Nat.le_refl _) hG⟩
      show (if fl_cat v0 = 1 then _ else none) = _
      rw [hv.cat, if_pos (Nat.eq_of_beq_eq_true hb)]
    · cases e
  case pop2 =>
    dsimp only [at_st] at e
    split at e
    · rename_i a r
      obtain ⟨hb, e⟩ := am_bif e
      cases e
      obtain ⟨v0, s0, rfl, hv, hw, hG⟩ := h.pop
      refine ⟨(pc + 1, fl, s0, m), ?_, at_Nx.one (by rfl) at_ag.rfl (Nat.le_refl _) hG⟩
      show (if fl_cat v0 = 2 then _ else none) = _
      rw [hv.cat, if_pos (Nat.eq_of_beq_eq_true hb)]
    · cases e
  case dup2 =>
    dsimp only [at_st] at e
    split at e
    · rename_i a b r
      obtain ⟨hb, e⟩ := am_bif e
      cases e
      simp only [Bool.and_eq_true] at hb
      obtain ⟨v0, s0, rfl, hv, hw, hG⟩ := h.pop
      obtain ⟨v1, s1, rfl, hv1, hw1, hG1⟩ := hG.pop
      refine ⟨(pc + 1, fl, v0 :: v1 :: v0 :: v1 :: s1, m), ?_, at_Nx.one (by rfl) at_ag.rfl (Nat.le_refl _) ((h.push hv1 hw1).push hv hw)⟩
      show (if fl_cat v0 = 1 ∧ fl_cat v1 = 1 then _ else none) = _
      rw [hv.cat, hv1.cat, if_pos ⟨Nat.eq_of_beq_eq_true hb.1, Nat.eq_of_beq_eq_true hb.2⟩]
    · cases e
  case ifCond c off =>
    dsimp only [at_st] at e
    split at e
    · obtain ⟨v0, s0, rfl, ⟨x, rfl, ex⟩, hw, hG⟩ := h.pop
      exact at_br_ok hG hw (by rw [at_c1, ex]) e
    · obtain ⟨v0, s0, rfl, ⟨x, rfl, ex⟩, hw, hG⟩ := h.pop
      exact at_br_ok hG hw (at_c3 c ex) e
    · cases e
  case if_icmp c off =>
    dsimp only [at_st] at e
    split at e
    · obtain ⟨v0, s0, rfl, ⟨y, rfl, ey⟩, hw0, hG0⟩ := h.pop
      obtain ⟨v1, s1, rfl, ⟨x, rfl, ex⟩, hw1, hG1⟩ := hG0.pop
      exact at_br_ok hG1 (at_wf_sub hw1 hw0) (by rw [at_c2, at_ev_sub, ex, ey]) e
    · cases e
  case goto off =>
    dsimp only [at_st] at e
    split at e
    · rename_i t et
      cases e
      refine ⟨(t, fl, fs, m), ?_, at_Nx.one (by rfl) at_ag.rfl (Nat.le_refl _) h⟩
      show fl_go pc off fl fs m = _
      unfold fl_go
      rw [et]
    · cases e
  case tableswitch d lo hi offs =>
    dsimp only [at_st] at e
    split at e
    · obtain ⟨v0, s0, rfl, ⟨x, rfl, ex⟩, hw, hG⟩ := h.pop
      exact at_ts_ok hG hw ex e
    · cases e
  case getfield i => exact at_gf_ok h e
  case putfield i => exact at_pf_ok2 hX h e
  case getstatic i =>
    dsimp only [at_st] at e
    split at e
    · rename_i c ec
      cases e
      refine ⟨(pc + 3, fl, .inr (.inr (.inr (.inl c))) :: fs, m), ?_, at_Nx.one (by rfl) at_ag.rfl (Nat.le_refl _) (at_G.push (a := .inr (.inr (.inr (.inl c)))) (v := .inr (.inr (.inr (.inl c)))) h rfl True.intro)⟩
      show (match pw_sta (pw_own mi) i with | some c => (some (pc + 3, fl, (.inr (.inr (.inr (.inl c))) : fl_V) :: fs, m) : Option fl_C) | none => none) = _
      rw [ec]
    · cases e
  case iaload => exact at_ald_ok h e
  case iastore => exact at_ast_ok hX h e
  case laload => exact at_lald_ok h e
  case lastore => exact at_last_ok hX h e
  case aaload => exact at_qald_ok h e
  case arraylength => exact at_len_ok h e
  case invokestatic i =>
    dsimp only [at_st] at e
    split at e
    · rename_i en
      obtain ⟨c, e1, e2⟩ := at_cpy_ok hX h e
      refine ⟨c, ?_, e2⟩
      show (match am_ntk (pw_P L xs) mi (.invokestatic i) with | some 1 => fl_n1 pc fl fs m | _ => none) = _
      have : am_ntk (pw_P L xs) mi (.invokestatic i) = some 1 := by
        show (match pw_nat mi i with | some 1 => some 1 | some 3 => some 3 | some 4 => some 4 | _ => none) = _
        rw [en]
        rfl
      rw [this]
      exact e1
    · cases e
end ATA

end

/-! 70.exec.lean.txt -/
section
/-! ===== the looker's run: calls by contract or in line, loops by their shape ===== -/
/-- an argument: a reference (kind, place), an int or a long in a range -/
abbrev at_K : Type := (Nat × Option Nat) ⊕ (Bool × Int × Int)
/-- a contract: method, arguments, which of them (and so much more) is below the number of cells; answer, is it below the number of cells; what is written -/
abbrev at_C : Type := Nat × List at_K × List (Nat × Int) × Option (Nat ⊕ (Bool × Int × Int)) × Bool × List at_W
/-- a number in terms of locals (0), words (1), the number of cells (2) -/
abbrev at_T : Type := Int × List (Int × Nat × Nat)
/-- a loop: method, place, kind of local 0; passed by where a local is a number; locals that change; what is written; words that are named (of local i's object, of the reference's row); what holds; what falls -/
abbrev at_J : Type := (Nat × Nat × Option Nat) × Option (Nat × Int) × List (Nat × Option (Bool × Int × Int)) × List at_W × List (Option Nat × at_T × Int × Int) × List at_T × at_T
/-- a loop that is being gone through: place, its shape, the base's locals, facts that stay, its start, the named words, their names, what falls -/
abbrev at_Ac : Type := Nat × at_J × at_L × List at_F × at_S × at_L × List (Nat × at_A × at_A) × at_A
abbrev at_O : Type := at_S × Option at_V
def at_tmt (lv : at_L) (bv : List at_A) (n : Option at_A) (t : Int × Nat × Nat) : Option at_A := match t.2.1 with
  | 0 => (match lv[t.2.2]? with
    | some (some (.inl a)) => some (at_mul t.1 a)
    | some (some (.inr (.inl a))) => some (at_mul t.1 a)
    | _ => none)
  | 1 => (match bv[t.2.2]? with
    | some a => some (at_mul t.1 a)
    | none => none)
  | _ => (match n with
    | some a => some (at_mul t.1 a)
    | none => none)
def at_tml (lv : at_L) (bv : List at_A) (n : Option at_A) : List (Int × Nat × Nat) → Option at_A
  | [] => some (at_c 0)
  | t :: r => match at_tmt lv bv n t, at_tml lv bv n r with
    | some a, some b => some (at_add a b)
    | _, _ => none
def at_tm (lv : at_L) (bv : List at_A) (n : Option at_A) (t : at_T) : Option at_A := match at_tml lv bv n t.2 with
  | some a => some (at_add a (at_c t.1))
  | none => none
def at_cvW (w w' : at_W) : Bool := Nat.beq w.1 w'.1 && (bif w'.2.1 then w.2.1 && (decide (w'.2.2.1 ≤ w.2.2.1) && decide (w.2.2.2 ≤ w'.2.2.2)) else bif w.2.1 then decide (w'.2.2.1 ≤ 444 + w.2.2.1) && decide (1359 + w.2.2.2 ≤ w'.2.2.2) else decide (w'.2.2.1 ≤ w.2.2.1) && decide (w.2.2.2 ≤ w'.2.2.2))
/-- may the fact's word be written? -/
def at_mh (sy : List (Int × Int)) (f : at_F) (w : at_W) : Bool := Nat.beq f.1 w.1 && (bif w.2.1 then !at_dj sy f.2.2.1 (0, 444 + w.2.2.1, 61, 16, w.2.2.2 - w.2.2.1 + 1, 0, 0) else !(decide (at_hi sy f.2.2.1 < w.2.2.1) || decide (w.2.2.2 < at_lo sy f.2.2.1)))
/-- the named words' places -/
def at_bl (S : at_S) (lv : at_L) : List (Option Nat × at_T × Int × Int) → Option (at_S × List (Nat × at_A × at_A) × List at_A)
  | [] => some (S, [], [])
  | b :: r => match at_tm lv [] none b.2.1, (match b.1 with
      | none => some (at_TA, at_c 280)
      | some i => match lv[i]? with
        | some (some (.inr (.inr (.inl q)))) => some q
        | _ => none) with
    | some ix, some q => bif at_nn S.1 ix then
        (fun s : at_S × at_A => bif at_inR s.1.1 s.2 b.2.2.1 b.2.2.2 then (match at_bl s.1 lv r with
          | some z => some (z.1, (q.1, q.2, ix) :: z.2.1, s.2 :: z.2.2)
          | none => none) else none) (at_ld S q.1 q.2 ix) else none
    | _, _ => none
def at_hc1 (P : at_P) (lv : at_L) (h : Nat × Option (Bool × Int × Int)) : Bool := match h.2 with
  | none => true
  | some (b, lo, hi) => match lv[h.1]? with
    | some (some (.inl a)) => !b && at_inR P a lo hi
    | some (some (.inr (.inl a))) => b && at_inR P a lo hi
    | _ => false
def at_er (hav : List (Nat × Option (Bool × Int × Int))) (lv : at_L) : at_L := hav.foldl (fun l h => l.set h.1 none) lv
def at_hv : List (Nat × Option (Bool × Int × Int)) → at_P → at_L → at_P × at_L
  | [], P, lv => (P, lv)
  | (_, none) :: r, P, lv => at_hv r P lv
  | (i, some (b, lo, hi)) :: r, P, lv => at_hv r (at_new P lo hi) (lv.set i (some (bif b then .inr (.inl (at_nv P)) else .inl (at_nv P))))
def at_bh : List (Option Nat × at_T × Int × Int) → at_P → at_P × List at_A
  | [], P => (P, [])
  | b :: r, P => (fun z : at_P × List at_A => (z.1, at_nv P :: z.2)) (at_bh r (at_new P b.2.2.1 b.2.2.2))
def at_cons (lv : at_L) (bv : List at_A) (n : Option at_A) : List at_T → at_P → Option at_P
  | [], P => some P
  | t :: r, P => match at_tm lv bv n t with
    | some a => (match at_as P a with
      | some P' => at_cons lv bv n r P'
      | none => none)
    | none => none
def at_ckc (P : at_P) (lv : at_L) (bv : List at_A) (n : Option at_A) (ts : List at_T) : Bool := ts.all (fun t => match at_tm lv bv n t with
  | some a => at_le P a
  | none => false)
def at_nF (fs : List at_F) : Option at_A := at_ff fs at_TA (at_c 280) (at_c 2)
def at_loc (l : List (Nat × at_A × at_A)) (f : at_F) : Bool := l.any (fun q => Nat.beq q.1 f.1 && (at_eq q.2.1 f.2.1 && at_eq q.2.2 f.2.2.1))
def at_enter (S : at_S) (lv : at_L) (j : at_J) : Option (at_S × at_L × at_Ac) :=
  match at_bl (at_cs S).1 lv j.2.2.2.2.1 with
  | none => none
  | some (S2, locs, vals) =>
    bif j.2.2.1.all (at_hc1 S2.1 lv) && at_ckc S2.1 lv vals (at_nF S2.2.1) j.2.2.2.2.2.1 then
      (fun (lv0 : at_L) (f0 : List at_F) => (fun h : at_P × at_L => (fun b : at_P × List at_A =>
        match at_cons h.2 b.2 (at_nF f0) j.2.2.2.2.2.1 b.1, at_tm h.2 b.2 (at_nF f0) j.2.2.2.2.2.2 with
        | some P3, some me => (fun SJ : at_S => some (SJ, h.2, (j.1.2.1, j, lv0, f0, SJ, h.2, locs, me))) (P3, (locs.zip b.2).map (fun q => (q.1.1, q.1.2.1, q.1.2.2, q.2)) ++ f0, j.2.2.2.1 ++ S2.2.2.1, S2.2.2.2)
        | _, _ => none) (at_bh j.2.2.2.2.1 h.1)) (at_hv j.2.2.1 S2.1 lv0)) (at_er j.2.2.1 lv) (S2.2.1.filter (fun f => !(j.2.2.2.1.any (at_mh S2.1.1 f) || at_loc locs f)))
    else none
def at_eqV (a b : at_V) : Bool := match a, b with
  | .inl a, .inl b => at_eq a b
  | .inr (.inl a), .inr (.inl b) => at_eq a b
  | .inr (.inr (.inl p)), .inr (.inr (.inl q)) => Nat.beq p.1 q.1 && at_eq p.2 q.2
  | .inr (.inr (.inr (.inl c))), .inr (.inr (.inr (.inl d))) => Nat.beq c d
  | .inr (.inr (.inr (.inr a))), .inr (.inr (.inr (.inr b))) => at_eq a b
  | _, _ => false
/-- what stands in the base stands here too -/
def at_un : at_L → at_L → Bool
  | [], [] => true
  | none :: r, _ :: s => at_un r s
  | some a :: r, some b :: s => at_eqV a b && at_un r s
  | _, _ => false
def at_eqF (f g : at_F) : Bool := Nat.beq f.1 g.1 && (at_eq f.2.1 g.2.1 && (at_eq f.2.2.1 g.2.2.1 && at_eq f.2.2.2 g.2.2.2))
def at_bvs (fs : List at_F) : List (Nat × at_A × at_A) → Option (List at_A)
  | [] => some []
  | q :: r => match at_ff fs q.1 q.2.1 q.2.2, at_bvs fs r with
    | some v, some vs => some (v :: vs)
    | _, _ => none
def at_bck (S : at_S) (lv : at_L) (A : at_Ac) : Bool :=
  (fun (j : at_J) => match at_bvs S.2.1 A.2.2.2.2.2.2.1 with
  | none => false
  | some vals => j.2.2.1.all (at_hc1 S.1 lv) && (at_un A.2.2.1 lv && ((vals.zip j.2.2.2.2.1).all (fun q => at_inR S.1 q.1 q.2.2.2.1 q.2.2.2.2) && (at_ckc S.1 lv vals (at_nF S.2.1) j.2.2.2.2.2.1 && (A.2.2.2.1.all (fun f => S.2.1.any (at_eqF f)) && (S.2.2.1.all (fun w => A.2.2.2.2.1.2.2.1.any (at_cvW w)) && (S.2.2.2.all (fun b => at_hb A.2.2.2.2.1.2.2.2 b.1 b.2) && (match at_tm lv vals (at_nF S.2.1) j.2.2.2.2.2.2 with
    | some me => at_le S.1 (at_sub (at_c 1) A.2.2.2.2.2.2.2) && at_le S.1 (at_add (at_sub me A.2.2.2.2.2.2.2) (at_c 1))
    | none => false)))))))) A.2.1
def at_eqO (a b : Option Nat) : Bool := match a, b with
  | none, none => true
  | some a, some b => Nat.beq a b
  | _, _ => false
def at_fj (JT : List at_J) (mi pc : Nat) (k0 : Option Nat) : Option at_J := JT.find? (fun j => Nat.beq j.1.1 mi && (Nat.beq j.1.2.1 pc && at_eqO j.1.2.2 k0))
def at_skip (S : at_S) (lv : at_L) (j : at_J) : Bool := match j.2.1 with
  | none => false
  | some (i, k) => match lv[i]? with
    | some (some (.inl a)) => (match at_ic S.1.1 a with
      | some z => decide (z = k)
      | none => false)
    | _ => false
/-- at a loop's head: nothing to do; back at it; into it -/
def at_head (JT : List at_J) (mi : Nat) (k0 : Option Nat) (pc : Nat) (S : at_S) (lv : at_L) (act : List at_Ac) : Option (Option (Option (at_S × at_L × at_Ac))) := match at_fj JT mi pc k0 with
  | none => some none
  | some j => bif at_skip S lv j then some none else match act.find? (fun A => Nat.beq A.1 pc) with
    | some A => bif at_bck S lv A then some (some none) else none
    | none => match at_enter S lv j with
      | some x => some (some (some x))
      | none => none
def at_jn {α : Type} : List (Option (List α)) → Option (List α)
  | [] => some []
  | none :: _ => none
  | some l :: r => match at_jn r with
    | some q => some (l ++ q)
    | none => none
def at_kd0 (as_ : List at_V) : Option Nat := match as_ with
  | .inr (.inr (.inl q)) :: _ => some q.1
  | _ => none
def at_ar : List at_V → at_L
  | [] => []
  | v :: r => bif Nat.beq (at_cat v) 2 then some v :: none :: at_ar r else some v :: at_ar r
def at_args (n : Nat) (as_ : List at_V) : at_L := at_ar as_ ++ List.replicate (n - (at_ar as_).length) none
def at_rc (ins : Instr) (mj n : Nat) (st : List at_V) : Bool :=
  Nat.ble n st.length && (Nat.ble ((st.drop n).map at_cat).sum 8 && (Nat.ble ((st.take n).map at_cat).sum (pw_mxl mj) && (match ins with
  | .invokestatic _ => true
  | .invokespecial _ => (match (st.take n).reverse with
    | .inr (.inr (.inl _)) :: _ => true
    | _ => false)
  | .invokevirtual _ => (match (st.take n).reverse with
    | .inr (.inr (.inl q)) :: _ => (match fk_kd q.1 with
      | .inl (cj, _) => Nat.beq cj (pw_own mj)
      | _ => false)
    | _ => false)
  | _ => false)))
/-- do the arguments have the contract's kinds? -/
def at_kmt : List at_K → List at_V → Bool
  | [], [] => true
  | .inl k :: r, .inr (.inr (.inl q)) :: s => Nat.beq k.1 q.1 && at_kmt r s
  | .inr (false, _) :: r, .inl _ :: s => at_kmt r s
  | .inr (true, _) :: r, .inr (.inl _) :: s => at_kmt r s
  | _, _ => false
def at_fcn (CT : List at_C) (mj : Nat) (as_ : List at_V) : Option at_C := CT.find? (fun c => Nat.beq c.1 mj && at_kmt c.2.1 as_)
def at_aok (P : at_P) : List at_K → List at_V → Bool
  | [], [] => true
  | .inl (_, none) :: r, .inr (.inr (.inl _)) :: s => at_aok P r s
  | .inl (_, some p) :: r, .inr (.inr (.inl q)) :: s => at_eq q.2 (at_c p) && at_aok P r s
  | .inr (false, lo, hi) :: r, .inl a :: s => at_inR P a lo hi && at_aok P r s
  | .inr (true, lo, hi) :: r, .inr (.inl a) :: s => at_inR P a lo hi && at_aok P r s
  | _, _ => false
def at_ltk (P : at_P) (n : at_A) (as_ : List at_V) (q : Nat × Int) : Bool := match as_[q.1]? with
  | some (.inl a) => at_le P (at_add (at_sub a n) (at_c (q.2 + 1)))
  | _ => false
/-- the answer of a call by contract -/
def at_urn (lt b : Bool) (S1 : at_S) (v : at_P × at_A) : at_O := ((bif lt then (fun s2 : at_S × at_A => (at_try s2.1.1 (at_add (at_sub v.2 s2.2) (at_c 1)), s2.1.2)) (at_cs (v.1, S1.2)) else (v.1, S1.2)), some (bif b then .inr (.inl v.2) else .inl v.2))
def at_urt (c : at_C) (S1 : at_S) : at_O := match c.2.2.2.1 with
  | none => (S1, none)
  | some (.inl τ) => ((at_new S1.1 0 1000000, S1.2), some (.inr (.inr (.inl (τ, at_nv S1.1)))))
  | some (.inr (b, lo, hi)) => at_urn c.2.2.2.2.1 b S1 (bif decide (lo = hi) then (S1.1, at_c lo) else at_fr S1.1 lo hi)
/-- a call by contract -/
def at_use (S : at_S) (as_ : List at_V) (c : at_C) : Option at_O :=
  (fun s : at_S × at_A => bif s.1.2.2.2.isEmpty && (at_aok s.1.1 c.2.1 as_ && c.2.2.1.all (at_ltk s.1.1 s.2 as_)) then
    some (at_urt c (s.1.1, s.1.2.1.filter (fun f => !c.2.2.2.2.2.any (at_mh s.1.1.1 f)), c.2.2.2.2.2.filter (fun w => !s.1.2.2.1.any (at_eqW w)) ++ s.1.2.2.1, s.1.2.2.2))
  else none) (at_cs S)
/-- the lesser of two; held to two bounds -/
def at_pmin (P : at_P) (a b : at_A) : at_P × at_A := (fun z : at_A => (at_try (at_try (at_new P (min (at_lo P.1 a) (at_lo P.1 b)) (min (at_hi P.1 a) (at_hi P.1 b))) (at_sub z a)) (at_sub z b), z)) (at_nv P)
def at_phel (P : at_P) (l h : at_A) : at_P × at_A := (fun z : at_A => (at_try (at_try (at_new P (at_lo P.1 l) (at_hi P.1 h)) (at_sub z h)) (at_sub l z), z)) (at_nv P)
def at_prim (mj : Nat) (S : at_S) (as_ : List at_V) : Option at_O := match mj, as_ with
  | 187, [.inl a, .inl b] => (fun q : at_P × at_A => some ((q.1, S.2), some (.inl q.2))) (at_pmin S.1 a b)
  | 186, [.inl _, .inl l, .inl h] => bif at_le S.1 (at_sub l h) then (fun q : at_P × at_A => some ((q.1, S.2), some (.inl q.2))) (at_phel S.1 l h) else none
  | _, _ => none
/-- a call: by what is known of it, or none: in line -/
def at_call (CT : List at_C) (S : at_S) (mj : Nat) (as_ : List at_V) : Option (Option at_O) := match at_prim mj S as_ with
  | some o => some (some o)
  | none => match at_fcn CT mj as_ with
    | some c => some (at_use S as_ c)
    | none => none
def at_ret (mi : Nat) (ins : Instr) (S : at_S) (st : List at_V) : Option at_O := match ins, st with
  | .return_, [] => (match pw_ret mi with
    | none => some (S, none)
    | some _ => none)
  | .ireturn, [.inl a] => (match pw_ret mi with
    | some .int => some (S, some (.inl a))
    | some .boolean => bif at_inR S.1 a 0 1 then some (S, some (.inl a)) else none
    | _ => none)
  | .lreturn, [.inr (.inl a)] => (match pw_ret mi with
    | some .long => some (S, some (.inr (.inl a)))
    | _ => none)
  | _, _ => none
def at_ex (CT : List at_C) (JT : List at_J) : Nat → Nat → Option Nat → Nat → Bool → at_S → at_L → List at_V → List at_Ac → Option (List at_O)
  | 0, _, _, _, _, _, _, _, _ => none
  | f + 1, mi, k0, pc, hd, S, lv, st, act => match (bif hd && st.isEmpty then at_head JT mi k0 pc S lv act else some none) with
    | none => none
    | some (some none) => some []
    | some (some (some (SJ, lvJ, A))) => at_ex CT JT f mi k0 pc false SJ lvJ [] (A :: act)
    | some none => match pw_code mi pc with
      | none => none
      | some ins => match at_cl mi ins with
        | some (mj, n) => bif at_rc ins mj n st then (match at_call CT S mj (st.take n).reverse with
          | some none => none
          | some (some o) => at_ex CT JT f mi k0 (pc + 3) true o.1 lv (o.2.toList ++ st.drop n) act
          | none => match at_ex CT JT f mj (at_kd0 (st.take n).reverse) 0 true S (at_args (pw_mxl mj) (st.take n).reverse) [] [] with
            | none => none
            | some outs => at_jn (outs.map (fun o => at_ex CT JT f mi k0 (pc + 3) true o.1 lv (o.2.toList ++ st.drop n) act))) else none
        | none => match at_ret mi ins S st with
          | some o => some [o]
          | none => match at_st mi ins pc S lv st with
            | none => none
            | some alts => at_jn (alts.map (fun a => at_ex CT JT f mi k0 a.1 true a.2.1 a.2.2.1 a.2.2.2 act))
/-! a contract that the looker proves itself -/
def at_sta : List at_K → at_P → at_P × List at_V
  | [], P => (P, [])
  | .inl (τ, some p) :: r, P => (fun z : at_P × List at_V => (z.1, .inr (.inr (.inl (τ, at_c p))) :: z.2)) (at_sta r P)
  | .inl (τ, none) :: r, P => (fun z : at_P × List at_V => (z.1, .inr (.inr (.inl (τ, at_nv P))) :: z.2)) (at_sta r (at_new P 0 1000000))
  | .inr (b, lo, hi) :: r, P => (fun z : at_P × List at_V => (z.1, (bif b then .inr (.inl (at_nv P)) else .inl (at_nv P)) :: z.2)) (at_sta r (at_new P lo hi))
def at_stl (as_ : List at_V) : List (Nat × Int) → at_S → Option at_S
  | [], S => some S
  | q :: r, S => match as_[q.1]? with
    | some (.inl a) => (fun s : at_S × at_A => match at_as s.1.1 (at_add (at_sub a s.2) (at_c (q.2 + 1))) with
      | some P => at_stl as_ r (P, s.1.2)
      | none => none) (at_cs S)
    | _ => none
def at_oko (c : at_C) (o : at_O) : Bool := o.1.2.2.2.isEmpty && (o.1.2.2.1.all (fun w => c.2.2.2.2.2.any (at_cvW w)) && (match c.2.2.2.1, o.2 with
  | none, none => true
  | some (.inr (false, lo, hi)), some (.inl a) => at_inR o.1.1 a lo hi && (!c.2.2.2.2.1 || (fun s : at_S × at_A => at_le s.1.1 (at_add (at_sub a s.2) (at_c 1))) (at_cs o.1))
  | some (.inr (true, lo, hi)), some (.inr (.inl a)) => at_inR o.1.1 a lo hi && !c.2.2.2.2.1
  | _, _ => false))
def at_chk (CT : List at_C) (JT : List at_J) (f : Nat) (c : at_C) : Bool := (fun z : at_P × List at_V => match at_stl z.2 c.2.2.1 (z.1, [], [], []) with
  | some S => (match at_ex CT JT f c.1 (at_kd0 z.2) 0 true S (at_args (pw_mxl c.1) z.2) [] [] with
    | some outs => outs.all (at_oko c)
    | none => false)
  | none => false) (at_sta c.2.1 ([], [], []))
/-- contracts, each by those ahead of it -/
def at_all (CT : List at_C) (JT : List at_J) (f : Nat) : List at_C → Bool
  | [] => true
  | c :: r => at_chk CT JT f c && at_all (CT ++ [c]) JT f r

end

/-! 71.data.lean.txt -/
section
/-! ===== printed by wip/gen/t1data.py and looks3.py: contracts and loops for the looker ===== -/
def at_qm0 : at_C := (24, [.inl (73, none), .inr (false, 0, 19)], [], some (.inl 25), false, [(74, false, 0, 19)])
def at_qm1 : at_C := (156, [.inl (0, some 0)], [], some (.inr (true, -9223372036854775808, 9223372036854775807)), false, [])
def at_qm2 : at_C := (157, [.inl (0, some 0)], [], some (.inr (false, -2147483648, 2147483647)), false, [])
def at_qm3 : at_C := (242, [.inl (76, some 277)], [], some (.inr (false, -1, 19)), false, [(79, false, 0, 0), (79, false, 2, 1419)])
def at_qm4 : at_C := (241, [.inl (76, some 277)], [], none, false, [(79, false, 0, 1), (79, false, 1420, 29779)])
def at_qm5 : at_C := (217, [.inl (76, some 277), .inr (false, 0, 15)], [(1, 0)], none, false, [(79, false, 444, 1419)])
def at_qm6 : at_C := (292, [.inl (76, some 277)], [], some (.inr (true, -9223372036854775808, 9223372036854775807)), false, [])
def at_qm7 : at_C := (293, [.inl (76, some 277)], [], some (.inr (false, -2147483648, 2147483647)), false, [])
def at_qm8 : at_C := (296, [.inl (76, some 277)], [], some (.inr (false, -1, 1000)), false, [])
def at_qm9 : at_C := (308, [.inl (76, some 277), .inr (false, -2147483648, 2147483647), .inr (false, -2147483648, 2147483647), .inr (false, -2147483648, 2147483647)], [], some (.inr (false, -2147483648, 2147483647)), false, [(83, false, 0, 16249)])
def at_qm10 : at_C := (238, [.inl (76, some 277)], [], none, false, [(82, false, 0, 1417)])
def at_qm11 : at_C := (239, [.inl (76, some 277)], [], none, false, [(79, false, 2, 1419)])
def at_qm12 : at_C := (323, [.inl (76, some 277)], [], some (.inr (false, -2147483648, 2147483647)), false, [(80, false, 0, 29779)])
def at_qm13 : at_C := (324, [.inl (76, some 277)], [], some (.inr (false, -2147483648, 2147483647)), false, [(79, false, 0, 29779)])
def at_q0 : at_C := (33, [.inl (25, none), .inl (1, some 1)], [], none, false, [(25, false, 5, 16), (27, false, 6, 8), (28, false, 0, 29), (29, false, 0, 2), (30, false, 0, 23), (31, false, 0, 11), (32, false, 0, 47), (33, false, 0, 39), (34, false, 3, 6), (35, false, 0, 10), (36, false, 0, 3), (37, false, 2, 3), (38, false, 0, 71), (40, false, 2, 3), (41, false, 0, 95), (42, false, 0, 18), (43, false, 2, 2), (44, false, 0, 31), (45, false, 0, 10), (46, false, 2, 3), (47, false, 0, 15), (48, false, 0, 15)])
def at_q1 : at_C := (5, [.inl (18, none), .inr (false, -2147483648, 2147483647)], [], none, false, [(18, false, 2, 4)])
def at_q2 : at_C := (338, [.inl (21, none), .inr (false, -2147483648, 2147483647)], [], none, false, [(21, false, 0, 10)])
def at_q3 : at_C := (101, [.inl (0, some 0), .inr (false, -2147483648, 2147483647), .inr (false, -2147483648, 2147483647), .inr (false, -2147483648, 2147483647)], [], some (.inr (false, -1, 15)), false, [(1, false, 5, 5), (18, false, 0, 18), (19, false, 2, 2), (20, false, 0, 0), (21, false, 0, 10), (25, false, 5, 16), (27, false, 6, 8), (28, false, 0, 29), (29, false, 0, 2), (30, false, 0, 23), (31, false, 0, 11), (32, false, 0, 47), (33, false, 0, 39), (34, false, 3, 6), (35, false, 0, 10), (36, false, 0, 3), (37, false, 2, 3), (38, false, 0, 71), (40, false, 2, 3), (41, false, 0, 95), (42, false, 0, 18), (43, false, 2, 2), (44, false, 0, 31), (45, false, 0, 10), (46, false, 2, 3), (47, false, 0, 15), (48, false, 0, 15), (73, false, 1, 2), (74, false, 0, 19)])
def at_q4 : at_C := (102, [.inl (0, some 0), .inr (false, -2147483648, 2147483647), .inr (false, -2147483648, 2147483647)], [], some (.inr (false, 0, 1)), false, [(18, false, 2, 4), (25, false, 5, 16), (27, false, 6, 8), (28, false, 0, 29), (29, false, 0, 2), (30, false, 0, 23), (31, false, 0, 11), (32, false, 0, 47), (33, false, 0, 39), (34, false, 3, 6), (35, false, 0, 10), (36, false, 0, 3), (37, false, 2, 3), (38, false, 0, 71), (40, false, 2, 3), (41, false, 0, 95), (42, false, 0, 18), (43, false, 2, 2), (44, false, 0, 31), (45, false, 0, 10), (46, false, 2, 3), (47, false, 0, 15), (48, false, 0, 15), (73, false, 1, 2), (74, false, 0, 19)])
def at_q5 : at_C := (103, [.inl (0, some 0), .inr (false, -2147483648, 2147483647), .inr (false, -2147483648, 2147483647)], [], some (.inr (false, 0, 1)), false, [(18, false, 6, 6), (25, false, 5, 16), (27, false, 6, 8), (28, false, 0, 29), (29, false, 0, 2), (30, false, 0, 23), (31, false, 0, 11), (32, false, 0, 47), (33, false, 0, 39), (34, false, 3, 6), (35, false, 0, 10), (36, false, 0, 3), (37, false, 2, 3), (38, false, 0, 71), (40, false, 2, 3), (41, false, 0, 95), (42, false, 0, 18), (43, false, 2, 2), (44, false, 0, 31), (45, false, 0, 10), (46, false, 2, 3), (47, false, 0, 15), (48, false, 0, 15), (73, false, 1, 2), (74, false, 0, 19)])
def at_q6 : at_C := (104, [.inl (0, some 0), .inr (false, -2147483648, 2147483647), .inr (false, -2147483648, 2147483647)], [], some (.inr (false, 0, 1)), false, [(4, false, 0, 29), (25, false, 5, 16), (27, false, 6, 8), (28, false, 0, 29), (29, false, 0, 2), (30, false, 0, 23), (31, false, 0, 11), (32, false, 0, 47), (33, false, 0, 39), (34, false, 3, 6), (35, false, 0, 10), (36, false, 0, 3), (37, false, 2, 3), (38, false, 0, 71), (40, false, 2, 3), (41, false, 0, 95), (42, false, 0, 18), (43, false, 2, 2), (44, false, 0, 31), (45, false, 0, 10), (46, false, 2, 3), (47, false, 0, 15), (48, false, 0, 15), (73, false, 1, 2), (74, false, 0, 19)])
def at_q7 : at_C := (38, [.inl (1, some 1), .inr (false, -2147483648, 2147483647)], [], some (.inr (false, -2147483648, 2147483647)), false, [])
def at_q8 : at_C := (53, [.inl (1, some 1)], [], some (.inr (false, -2147483648, 2147483647)), false, [])
def at_q9 : at_C := (54, [.inl (1, some 1), .inr (false, -2147483648, 2147483647)], [], some (.inr (false, 0, 1)), false, [])
def at_q10 : at_C := (58, [.inl (1, some 1)], [], some (.inr (false, 0, 1)), false, [(1, false, 7, 8)])
def at_q11 : at_C := (79, [.inl (3, some 3), .inr (false, -2147483648, 2147483647)], [], some (.inr (false, -2147483648, 2147483647)), false, [])
def at_q12 : at_C := (9, [.inl (18, none), .inr (false, -2147483648, 2147483647), .inl (3, some 3)], [], some (.inr (false, 0, 2147483647)), false, [])
def at_q13 : at_C := (51, [.inl (1, some 1), .inr (false, -2147483648, 2147483647)], [], some (.inr (false, -1, 15)), false, [])
def at_q14 : at_C := (60, [.inl (1, some 1), .inr (false, -2147483648, 2147483647)], [], none, false, [(18, false, 18, 18)])
def at_q15 : at_C := (59, [.inl (1, some 1)], [], none, false, [(1, false, 9, 9), (18, false, 18, 18)])
def at_q16 : at_C := (6, [.inl (18, none), .inr (false, -2147483648, 2147483647)], [], none, false, [(18, false, 8, 8)])
def at_q17 : at_C := (10, [.inl (18, none), .inr (false, -2147483648, 2147483647), .inl (3, some 3)], [], none, false, [(18, false, 0, 0), (18, false, 2, 4), (18, false, 6, 9)])
def at_q18 : at_C := (61, [.inl (1, some 1)], [], none, false, [(18, false, 0, 0), (18, false, 2, 4), (18, false, 6, 9)])
def at_q19 : at_C := (13, [.inl (18, none), .inr (false, -2147483648, 2147483647)], [], none, false, [(18, false, 2, 4), (18, false, 8, 8)])
def at_q20 : at_C := (39, [.inl (1, some 1)], [], some (.inr (false, 0, 1000)), false, [])
def at_q21 : at_C := (12, [.inl (18, none), .inr (false, -2147483648, 2147483647)], [], some (.inr (false, -2147483648, 35996400)), false, [(18, false, 2, 4), (18, false, 8, 8)])
def at_q22 : at_C := (64, [.inl (1, some 1), .inr (false, -2147483648, 2147483647), .inr (false, -2147483648, 2147483647)], [], some (.inr (false, -1, 15)), false, [])
def at_q23 : at_C := (63, [.inl (1, some 1)], [], none, false, [(1, false, 11, 11), (1, false, 13, 13), (1, false, 16, 16), (18, false, 2, 4), (18, false, 8, 8)])
def at_q24 : at_C := (62, [.inl (1, some 1)], [], none, false, [(1, false, 11, 11), (1, false, 13, 16), (18, false, 2, 4), (18, false, 8, 8)])
def at_q25 : at_C := (67, [.inl (1, some 1)], [], none, false, [(4, false, 20, 20)])
def at_q26 : at_C := (14, [.inl (18, none), .inr (false, -2147483648, 2147483647), .inr (false, -2147483648, 2147483647)], [], none, false, [(18, false, 11, 11), (18, false, 14, 14), (18, false, 16, 16)])
def at_q27 : at_C := (179, [.inr (false, -2147483648, 2147483647)], [], some (.inr (false, 0, 1000)), false, [])
def at_q28 : at_C := (15, [.inl (18, none)], [], none, false, [(18, false, 8, 8), (18, false, 15, 17)])
def at_q29 : at_C := (66, [.inl (1, some 1)], [], none, false, [(1, false, 8, 8), (1, false, 12, 12), (4, false, 20, 20), (18, false, 8, 8), (18, false, 11, 11), (18, false, 14, 17)])
def at_q30 : at_C := (68, [.inl (1, some 1)], [], some (.inr (false, -2147483648, 2147483647)), false, [(12, false, 0, 3)])
def at_q31 : at_C := (96, [.inl (10, some 10), .inr (false, 0, 1)], [], some (.inr (false, 0, 64)), false, [(10, false, 5, 5)])
def at_q32 : at_C := (41, [.inl (1, some 1), .inr (false, 0, 16), .inr (false, 0, 16)], [], some (.inr (false, -1000, 9999000)), false, [])
def at_q33 : at_C := (97, [.inl (10, some 10), .inr (false, 0, 1)], [], some (.inr (false, 0, 256)), false, [(10, false, 6, 6)])
def at_q34 : at_C := (98, [.inl (10, some 10), .inr (false, -2147483648, 2147483647)], [], some (.inr (false, 0, 512)), false, [(10, false, 4, 4)])
def at_q35 : at_C := (69, [.inl (1, some 1)], [], some (.inr (false, -2147483648, 2147483647)), false, [(10, false, 4, 6)])
def at_q36 : at_C := (99, [.inl (10, some 10), .inr (false, -2147483648, 2147483647), .inr (false, -2147483648, 2147483647)], [], some (.inr (false, -2147483648, 2147483647)), false, [(10, false, 3, 3), (11, false, 0, 10), (13, false, 2, 3), (14, false, -69, 140)])
def at_q37 : at_C := (91, [.inl (19, none)], [], none, false, [(19, false, 2, 2), (20, false, 1, 29), (21, false, 0, 10)])
def at_q38 : at_C := (88, [.inl (19, none), .inr (false, 0, 9999000)], [], none, false, [(19, false, 2, 2), (20, false, 0, 31), (21, false, 0, 10)])
def at_q39 : at_C := (16, [.inl (18, none), .inr (false, -2147483648, 2147483647)], [], none, false, [(18, false, 10, 10), (18, false, 12, 13), (19, false, 2, 2), (20, false, 0, 31), (21, false, 0, 10)])
def at_q40 : at_C := (70, [.inl (1, some 1)], [], none, false, [(16, false, 2, 3), (17, false, -93, 188), (18, false, 10, 10), (18, false, 12, 13), (19, false, 2, 2), (20, false, 0, 31), (21, false, 0, 10)])
def at_q41 : at_C := (72, [.inl (1, some 1), .inr (false, -2147483648, 2147483647)], [], some (.inr (false, -2147483648, 2147483647)), false, [])
def at_q42 : at_C := (71, [.inl (1, some 1)], [], none, false, [(4, false, 0, 29)])
def at_q43 : at_C := (57, [.inl (1, some 1)], [], some (.inr (false, -2147483648, 2147483647)), false, [(1, false, 6, 16), (4, false, 0, 29), (10, false, 3, 6), (11, false, 0, 10), (12, false, 0, 3), (13, false, 2, 3), (14, false, -69, 140), (16, false, 2, 3), (17, false, -93, 188), (18, false, 0, 0), (18, false, 2, 4), (18, false, 6, 18), (19, false, 2, 2), (20, false, 0, 31), (21, false, 0, 10)])
def at_q44 : at_C := (55, [.inl (1, some 1), .inr (false, -2147483648, 2147483647)], [], some (.inr (false, -2147483648, 2147483647)), false, [(1, false, 6, 16), (4, false, 0, 29), (10, false, 3, 6), (11, false, 0, 10), (12, false, 0, 3), (13, false, 2, 3), (14, false, -69, 140), (16, false, 2, 3), (17, false, -93, 188), (18, false, 0, 0), (18, false, 2, 4), (18, false, 6, 18), (19, false, 2, 2), (20, false, 0, 31), (21, false, 0, 10)])
def at_q45 : at_C := (105, [.inl (0, some 0), .inr (false, -2147483648, 2147483647)], [], some (.inr (false, -2147483648, 2147483647)), false, [(1, false, 6, 16), (4, false, 0, 29), (10, false, 3, 6), (11, false, 0, 10), (12, false, 0, 3), (13, false, 2, 3), (14, false, -69, 140), (16, false, 2, 3), (17, false, -93, 188), (18, false, 0, 0), (18, false, 2, 4), (18, false, 6, 18), (19, false, 2, 2), (20, false, 0, 31), (21, false, 0, 10), (25, false, 5, 16), (27, false, 6, 8), (28, false, 0, 29), (29, false, 0, 2), (30, false, 0, 23), (31, false, 0, 11), (32, false, 0, 47), (33, false, 0, 39), (34, false, 3, 6), (35, false, 0, 10), (36, false, 0, 3), (37, false, 2, 3), (38, false, 0, 71), (40, false, 2, 3), (41, false, 0, 95), (42, false, 0, 18), (43, false, 2, 2), (44, false, 0, 31), (45, false, 0, 10), (46, false, 2, 3), (47, false, 0, 15), (48, false, 0, 15), (73, false, 1, 2), (74, false, 0, 19)])
def at_q46 : at_C := (106, [.inl (0, some 0)], [], some (.inr (false, 0, 1)), false, [(1, false, 7, 7), (25, false, 5, 16), (27, false, 6, 8), (28, false, 0, 29), (29, false, 0, 2), (30, false, 0, 23), (31, false, 0, 11), (32, false, 0, 47), (33, false, 0, 39), (34, false, 3, 6), (35, false, 0, 10), (36, false, 0, 3), (37, false, 2, 3), (38, false, 0, 71), (40, false, 2, 3), (41, false, 0, 95), (42, false, 0, 18), (43, false, 2, 2), (44, false, 0, 31), (45, false, 0, 10), (46, false, 2, 3), (47, false, 0, 15), (48, false, 0, 15), (73, false, 1, 2), (74, false, 0, 19)])
def at_q47 : at_C := (107, [.inl (0, some 0)], [], some (.inr (false, 0, 1)), false, [(1, false, 7, 7), (1, false, 9, 9), (25, false, 5, 16), (27, false, 6, 8), (28, false, 0, 29), (29, false, 0, 2), (30, false, 0, 23), (31, false, 0, 11), (32, false, 0, 47), (33, false, 0, 39), (34, false, 3, 6), (35, false, 0, 10), (36, false, 0, 3), (37, false, 2, 3), (38, false, 0, 71), (40, false, 2, 3), (41, false, 0, 95), (42, false, 0, 18), (43, false, 2, 2), (44, false, 0, 31), (45, false, 0, 10), (46, false, 2, 3), (47, false, 0, 15), (48, false, 0, 15), (73, false, 1, 2), (74, false, 0, 19)])
def at_q48 : at_C := (108, [.inl (0, some 0), .inr (false, -2147483648, 2147483647)], [], some (.inr (false, 0, 1)), false, [(10, false, 3, 3), (25, false, 5, 16), (27, false, 6, 8), (28, false, 0, 29), (29, false, 0, 2), (30, false, 0, 23), (31, false, 0, 11), (32, false, 0, 47), (33, false, 0, 39), (34, false, 3, 6), (35, false, 0, 10), (36, false, 0, 3), (37, false, 2, 3), (38, false, 0, 71), (40, false, 2, 3), (41, false, 0, 95), (42, false, 0, 18), (43, false, 2, 2), (44, false, 0, 31), (45, false, 0, 10), (46, false, 2, 3), (47, false, 0, 15), (48, false, 0, 15), (73, false, 1, 2), (74, false, 0, 19)])
def at_q49 : at_C := (109, [.inl (0, some 0), .inr (false, -2147483648, 2147483647), .inr (false, -2147483648, 2147483647)], [], some (.inr (false, 0, 1)), false, [(5, false, 0, 2), (25, false, 5, 16), (27, false, 6, 8), (28, false, 0, 29), (29, false, 0, 2), (30, false, 0, 23), (31, false, 0, 11), (32, false, 0, 47), (33, false, 0, 39), (34, false, 3, 6), (35, false, 0, 10), (36, false, 0, 3), (37, false, 2, 3), (38, false, 0, 71), (40, false, 2, 3), (41, false, 0, 95), (42, false, 0, 18), (43, false, 2, 2), (44, false, 0, 31), (45, false, 0, 10), (46, false, 2, 3), (47, false, 0, 15), (48, false, 0, 15), (73, false, 1, 2), (74, false, 0, 19)])
def at_q50 : at_C := (110, [.inl (0, some 0), .inr (false, -2147483648, 2147483647), .inr (false, -2147483648, 2147483647)], [], some (.inr (false, -1, 6)), false, [(3, false, 6, 6), (7, false, 0, 11), (25, false, 5, 16), (27, false, 6, 8), (28, false, 0, 29), (29, false, 0, 2), (30, false, 0, 23), (31, false, 0, 11), (32, false, 0, 47), (33, false, 0, 39), (34, false, 3, 6), (35, false, 0, 10), (36, false, 0, 3), (37, false, 2, 3), (38, false, 0, 71), (40, false, 2, 3), (41, false, 0, 95), (42, false, 0, 18), (43, false, 2, 2), (44, false, 0, 31), (45, false, 0, 10), (46, false, 2, 3), (47, false, 0, 15), (48, false, 0, 15), (73, false, 1, 2), (74, false, 0, 19)])
def at_q51 : at_C := (111, [.inl (0, some 0)], [], some (.inr (false, -2147483648, 2147483647)), false, [(10, false, 4, 4), (25, false, 5, 16), (27, false, 6, 8), (28, false, 0, 29), (29, false, 0, 2), (30, false, 0, 23), (31, false, 0, 11), (32, false, 0, 47), (33, false, 0, 39), (34, false, 3, 6), (35, false, 0, 10), (36, false, 0, 3), (37, false, 2, 3), (38, false, 0, 71), (40, false, 2, 3), (41, false, 0, 95), (42, false, 0, 18), (43, false, 2, 2), (44, false, 0, 31), (45, false, 0, 10), (46, false, 2, 3), (47, false, 0, 15), (48, false, 0, 15), (73, false, 1, 2), (74, false, 0, 19)])
def at_q52 : at_C := (112, [.inl (0, some 0), .inr (false, -2147483648, 2147483647), .inr (false, -2147483648, 2147483647)], [], some (.inr (false, 0, 1)), false, [(6, false, 0, 23), (25, false, 5, 16), (27, false, 6, 8), (28, false, 0, 29), (29, false, 0, 2), (30, false, 0, 23), (31, false, 0, 11), (32, false, 0, 47), (33, false, 0, 39), (34, false, 3, 6), (35, false, 0, 10), (36, false, 0, 3), (37, false, 2, 3), (38, false, 0, 71), (40, false, 2, 3), (41, false, 0, 95), (42, false, 0, 18), (43, false, 2, 2), (44, false, 0, 31), (45, false, 0, 10), (46, false, 2, 3), (47, false, 0, 15), (48, false, 0, 15), (73, false, 1, 2), (74, false, 0, 19)])
def at_q53 : at_C := (36, [.inl (1, some 1), .inr (false, 0, 2)], [], none, false, [(22, false, 2, 3), (23, false, 0, 15), (24, false, 0, 15)])
def at_q54 : at_C := (113, [.inl (0, some 0), .inr (false, -2147483648, 2147483647)], [], some (.inr (false, 0, 1)), false, [(22, false, 2, 3), (23, false, 0, 15), (24, false, 0, 15), (25, false, 5, 16), (27, false, 6, 8), (28, false, 0, 29), (29, false, 0, 2), (30, false, 0, 23), (31, false, 0, 11), (32, false, 0, 47), (33, false, 0, 39), (34, false, 3, 6), (35, false, 0, 10), (36, false, 0, 3), (37, false, 2, 3), (38, false, 0, 71), (40, false, 2, 3), (41, false, 0, 95), (42, false, 0, 18), (43, false, 2, 2), (44, false, 0, 31), (45, false, 0, 10), (46, false, 2, 3), (47, false, 0, 15), (48, false, 0, 15), (73, false, 1, 2), (74, false, 0, 19)])
def at_q55 : at_C := (114, [.inl (0, some 0), .inr (false, -2147483648, 2147483647), .inr (false, -2147483648, 2147483647)], [], some (.inr (false, -1, 24)), false, [(3, false, 7, 7), (8, false, 0, 47), (25, false, 5, 16), (27, false, 6, 8), (28, false, 0, 29), (29, false, 0, 2), (30, false, 0, 23), (31, false, 0, 11), (32, false, 0, 47), (33, false, 0, 39), (34, false, 3, 6), (35, false, 0, 10), (36, false, 0, 3), (37, false, 2, 3), (38, false, 0, 71), (40, false, 2, 3), (41, false, 0, 95), (42, false, 0, 18), (43, false, 2, 2), (44, false, 0, 31), (45, false, 0, 10), (46, false, 2, 3), (47, false, 0, 15), (48, false, 0, 15), (73, false, 1, 2), (74, false, 0, 19)])
def at_q56 : at_C := (115, [.inl (0, some 0), .inr (false, -2147483648, 2147483647), .inr (false, 0, 1), .inr (false, -2147483648, 2147483647), .inr (false, -2147483648, 2147483647), .inr (false, -2147483648, 2147483647)], [], some (.inr (false, -1, 8)), false, [(3, false, 8, 8), (9, false, 0, 39), (25, false, 5, 16), (27, false, 6, 8), (28, false, 0, 29), (29, false, 0, 2), (30, false, 0, 23), (31, false, 0, 11), (32, false, 0, 47), (33, false, 0, 39), (34, false, 3, 6), (35, false, 0, 10), (36, false, 0, 3), (37, false, 2, 3), (38, false, 0, 71), (40, false, 2, 3), (41, false, 0, 95), (42, false, 0, 18), (43, false, 2, 2), (44, false, 0, 31), (45, false, 0, 10), (46, false, 2, 3), (47, false, 0, 15), (48, false, 0, 15), (73, false, 1, 2), (74, false, 0, 19)])
def at_q57 : at_C := (116, [.inl (0, some 0)], [], some (.inr (false, 0, 8)), false, [(3, false, 8, 8), (25, false, 5, 16), (27, false, 6, 8), (28, false, 0, 29), (29, false, 0, 2), (30, false, 0, 23), (31, false, 0, 11), (32, false, 0, 47), (33, false, 0, 39), (34, false, 3, 6), (35, false, 0, 10), (36, false, 0, 3), (37, false, 2, 3), (38, false, 0, 71), (40, false, 2, 3), (41, false, 0, 95), (42, false, 0, 18), (43, false, 2, 2), (44, false, 0, 31), (45, false, 0, 10), (46, false, 2, 3), (47, false, 0, 15), (48, false, 0, 15), (73, false, 1, 2), (74, false, 0, 19)])
def at_q58 : at_C := (117, [.inl (0, some 0)], [], some (.inr (false, 0, 24)), false, [(3, false, 7, 7), (25, false, 5, 16), (27, false, 6, 8), (28, false, 0, 29), (29, false, 0, 2), (30, false, 0, 23), (31, false, 0, 11), (32, false, 0, 47), (33, false, 0, 39), (34, false, 3, 6), (35, false, 0, 10), (36, false, 0, 3), (37, false, 2, 3), (38, false, 0, 71), (40, false, 2, 3), (41, false, 0, 95), (42, false, 0, 18), (43, false, 2, 2), (44, false, 0, 31), (45, false, 0, 10), (46, false, 2, 3), (47, false, 0, 15), (48, false, 0, 15), (73, false, 1, 2), (74, false, 0, 19)])
def at_q59 : at_C := (82, [.inl (3, some 3)], [], some (.inr (false, -2147483648, 2147483647)), false, [])
def at_q60 : at_C := (56, [.inl (1, some 1)], [], some (.inr (false, -2147483648, 2147483647)), false, [(1, false, 6, 16), (4, false, 0, 29), (10, false, 3, 6), (11, false, 0, 10), (12, false, 0, 3), (13, false, 2, 3), (14, false, -69, 140), (16, false, 2, 3), (17, false, -93, 188), (18, false, 0, 0), (18, false, 2, 4), (18, false, 6, 18), (19, false, 2, 2), (20, false, 0, 31), (21, false, 0, 10)])
def at_q61 : at_C := (118, [.inl (0, some 0)], [], some (.inr (false, -2147483648, 2147483647)), false, [(1, false, 6, 16), (4, false, 0, 29), (10, false, 3, 6), (11, false, 0, 10), (12, false, 0, 3), (13, false, 2, 3), (14, false, -69, 140), (16, false, 2, 3), (17, false, -93, 188), (18, false, 0, 0), (18, false, 2, 4), (18, false, 6, 18), (19, false, 2, 2), (20, false, 0, 31), (21, false, 0, 10), (25, false, 5, 16), (27, false, 6, 8), (28, false, 0, 29), (29, false, 0, 2), (30, false, 0, 23), (31, false, 0, 11), (32, false, 0, 47), (33, false, 0, 39), (34, false, 3, 6), (35, false, 0, 10), (36, false, 0, 3), (37, false, 2, 3), (38, false, 0, 71), (40, false, 2, 3), (41, false, 0, 95), (42, false, 0, 18), (43, false, 2, 2), (44, false, 0, 31), (45, false, 0, 10), (46, false, 2, 3), (47, false, 0, 15), (48, false, 0, 15), (73, false, 1, 2), (74, false, 0, 19)])
def at_q62 : at_C := (33, [.inl (1, some 1), .inl (25, none)], [], none, false, [(1, false, 5, 16), (3, false, 6, 8), (4, false, 0, 29), (5, false, 0, 2), (6, false, 0, 23), (7, false, 0, 11), (8, false, 0, 47), (9, false, 0, 39), (10, false, 3, 6), (11, false, 0, 10), (12, false, 0, 3), (13, false, 2, 3), (14, false, 0, 71), (16, false, 2, 3), (17, false, 0, 95), (18, false, 0, 18), (19, false, 2, 2), (20, false, 0, 31), (21, false, 0, 10), (22, false, 2, 3), (23, false, 0, 15), (24, false, 0, 15)])
def at_q63 : at_C := (119, [.inl (0, some 0)], [], some (.inr (false, -1, 19)), false, [(1, false, 5, 16), (3, false, 6, 8), (4, false, 0, 29), (5, false, 0, 2), (6, false, 0, 23), (7, false, 0, 11), (8, false, 0, 47), (9, false, 0, 39), (10, false, 3, 6), (11, false, 0, 10), (12, false, 0, 3), (13, false, 2, 3), (14, false, 0, 71), (16, false, 2, 3), (17, false, 0, 95), (18, false, 0, 18), (19, false, 2, 2), (20, false, 0, 31), (21, false, 0, 10), (22, false, 2, 3), (23, false, 0, 15), (24, false, 0, 15), (73, false, 2, 2), (74, false, 0, 19)])
def at_q64 : at_C := (33, [.inl (25, none), .inl (25, none)], [], none, false, [(25, false, 5, 16), (27, false, 6, 8), (28, false, 0, 29), (29, false, 0, 2), (30, false, 0, 23), (31, false, 0, 11), (32, false, 0, 47), (33, false, 0, 39), (34, false, 3, 6), (35, false, 0, 10), (36, false, 0, 3), (37, false, 2, 3), (38, false, 0, 71), (40, false, 2, 3), (41, false, 0, 95), (42, false, 0, 18), (43, false, 2, 2), (44, false, 0, 31), (45, false, 0, 10), (46, false, 2, 3), (47, false, 0, 15), (48, false, 0, 15)])
def at_q65 : at_C := (22, [.inl (73, none), .inl (73, none)], [], none, false, [(25, false, 5, 16), (27, false, 6, 8), (28, false, 0, 29), (29, false, 0, 2), (30, false, 0, 23), (31, false, 0, 11), (32, false, 0, 47), (33, false, 0, 39), (34, false, 3, 6), (35, false, 0, 10), (36, false, 0, 3), (37, false, 2, 3), (38, false, 0, 71), (40, false, 2, 3), (41, false, 0, 95), (42, false, 0, 18), (43, false, 2, 2), (44, false, 0, 31), (45, false, 0, 10), (46, false, 2, 3), (47, false, 0, 15), (48, false, 0, 15), (73, false, 1, 2), (74, false, 0, 19)])
def at_q66 : at_C := (120, [.inl (0, some 0)], [], some (.inr (false, -2147483648, 2147483647)), false, [(25, false, 5, 16), (27, false, 6, 8), (28, false, 0, 29), (29, false, 0, 2), (30, false, 0, 23), (31, false, 0, 11), (32, false, 0, 47), (33, false, 0, 39), (34, false, 3, 6), (35, false, 0, 10), (36, false, 0, 3), (37, false, 2, 3), (38, false, 0, 71), (40, false, 2, 3), (41, false, 0, 95), (42, false, 0, 18), (43, false, 2, 2), (44, false, 0, 31), (45, false, 0, 10), (46, false, 2, 3), (47, false, 0, 15), (48, false, 0, 15), (73, false, 1, 2), (74, false, 0, 19)])
def at_q67 : at_C := (121, [.inl (0, some 0)], [], some (.inr (false, -2147483648, 2147483647)), false, [(1, false, 5, 16), (3, false, 6, 8), (4, false, 0, 29), (5, false, 0, 2), (6, false, 0, 23), (7, false, 0, 11), (8, false, 0, 47), (9, false, 0, 39), (10, false, 3, 6), (11, false, 0, 10), (12, false, 0, 3), (13, false, 2, 3), (14, false, 0, 71), (16, false, 2, 3), (17, false, 0, 95), (18, false, 0, 18), (19, false, 2, 2), (20, false, 0, 31), (21, false, 0, 10), (22, false, 2, 3), (23, false, 0, 15), (24, false, 0, 15), (25, false, 5, 16), (27, false, 6, 8), (28, false, 0, 29), (29, false, 0, 2), (30, false, 0, 23), (31, false, 0, 11), (32, false, 0, 47), (33, false, 0, 39), (34, false, 3, 6), (35, false, 0, 10), (36, false, 0, 3), (37, false, 2, 3), (38, false, 0, 71), (40, false, 2, 3), (41, false, 0, 95), (42, false, 0, 18), (43, false, 2, 2), (44, false, 0, 31), (45, false, 0, 10), (46, false, 2, 3), (47, false, 0, 15), (48, false, 0, 15), (73, false, 1, 2), (74, false, 0, 19)])
def at_q68 : at_C := (122, [.inl (0, some 0), .inr (false, -2147483648, 2147483647)], [], some (.inr (false, -2147483648, 2147483647)), false, [])
def at_q69 : at_C := (123, [.inl (0, some 0), .inr (false, -2147483648, 2147483647)], [], some (.inr (false, -2147483648, 2147483647)), false, [])
def at_q70 : at_C := (124, [.inl (0, some 0), .inr (false, -2147483648, 2147483647), .inr (false, -2147483648, 2147483647)], [], some (.inr (false, -2147483648, 2147483647)), false, [])
def at_q71 : at_C := (125, [.inl (0, some 0), .inr (false, -2147483648, 2147483647), .inr (false, -2147483648, 2147483647)], [], some (.inr (false, -2147483648, 2147483647)), false, [])
def at_q72 : at_C := (74, [.inl (1, some 1), .inr (false, 0, 12), .inr (false, 1, 16), .inr (false, -2147483648, 2147483647)], [], some (.inr (false, -2147483648, 2147483647)), false, [])
def at_q73 : at_C := (126, [.inl (0, some 0), .inr (false, -2147483648, 2147483647), .inr (false, -2147483648, 2147483647)], [], some (.inr (false, -2147483648, 2147483647)), false, [])
def at_q74 : at_C := (127, [.inl (0, some 0), .inr (false, -2147483648, 2147483647), .inr (false, -2147483648, 2147483647)], [], some (.inr (false, -2147483648, 2147483647)), false, [])
def at_q75 : at_C := (128, [.inl (0, some 0), .inr (false, -2147483648, 2147483647), .inr (false, -2147483648, 2147483647)], [], some (.inr (false, -2147483648, 2147483647)), false, [])
def at_q76 : at_C := (129, [.inl (0, some 0), .inr (false, -2147483648, 2147483647), .inr (false, -2147483648, 2147483647)], [], some (.inr (false, -1, 9999000)), false, [])
def at_q77 : at_C := (130, [.inl (0, some 0), .inr (false, -2147483648, 2147483647)], [], some (.inr (false, -2147483648, 2147483647)), false, [])
def at_q78 : at_C := (17, [.inl (18, none), .inr (false, -2147483648, 2147483647), .inl (3, some 3), .inr (false, -2147483648, 2147483647)], [], some (.inr (false, -2147483648, 2147483647)), false, [])
def at_q79 : at_C := (131, [.inl (0, some 0)], [], some (.inr (false, -2147483648, 2147483647)), false, [])
def at_q80 : at_C := (132, [.inl (0, some 0), .inr (false, -2147483648, 2147483647)], [], some (.inr (false, -2147483648, 2147483647)), false, [])
def at_q81 : at_C := (133, [.inl (0, some 0), .inr (false, -2147483648, 2147483647), .inr (false, -2147483648, 2147483647)], [], some (.inr (false, -2147483648, 2147483647)), false, [])
def at_q82 : at_C := (134, [.inl (0, some 0), .inr (false, -2147483648, 2147483647)], [], some (.inr (false, -2147483648, 2147483647)), false, [])
def at_q83 : at_C := (135, [.inl (0, some 0), .inr (false, -2147483648, 2147483647), .inr (false, -2147483648, 2147483647), .inr (false, -2147483648, 2147483647)], [], some (.inr (false, -2147483648, 2147483647)), false, [])
def at_q84 : at_C := (47, [.inl (1, some 1), .inr (false, 0, 15)], [], some (.inr (false, -2147483648, 2147483647)), false, [])
def at_q85 : at_C := (46, [.inl (1, some 1), .inr (false, -2147483648, 2147483647)], [], some (.inr (false, -1, 15)), false, [])
def at_q86 : at_C := (136, [.inl (0, some 0), .inr (false, -2147483648, 2147483647)], [], some (.inr (false, -1, 15)), false, [])
def at_q87 : at_C := (137, [.inl (0, some 0)], [], some (.inr (false, -1, 9999000)), false, [])
def at_q88 : at_C := (138, [.inl (0, some 0)], [], some (.inr (false, -2147483648, 2147483647)), false, [])
def at_q89 : at_C := (43, [.inl (1, some 1)], [], some (.inr (true, -9223372036854775808, 9223372036854775807)), false, [])
def at_q90 : at_C := (42, [.inl (1, some 1)], [], some (.inr (true, -9223372036854775808, 9223372036854775807)), false, [])
def at_q91 : at_C := (139, [.inl (0, some 0)], [], some (.inr (false, -2147483648, 2147483647)), false, [])
def at_q92 : at_C := (140, [.inl (0, some 0), .inr (false, -2147483648, 2147483647)], [], some (.inr (false, -2147483648, 2147483647)), false, [])
def at_q93 : at_C := (45, [.inl (1, some 1), .inr (false, -2147483648, 2147483647)], [], some (.inr (false, -2147483648, 2147483647)), false, [])
def at_q94 : at_C := (141, [.inl (0, some 0), .inr (false, -2147483648, 2147483647)], [], some (.inr (false, -2147483648, 2147483647)), false, [])
def at_q95 : at_C := (337, [.inl (75, none), .inr (true, -9223372036854775808, 9223372036854775807)], [], none, false, [(75, false, 0, 324)])
def at_q96 : at_C := (171, [.inl (0, some 0), .inr (false, 0, 24), .inr (false, 1, 12)], [], none, false, [(75, false, 0, 324)])
def at_q97 : at_C := (142, [.inl (0, some 0), .inr (false, -2147483648, 2147483647), .inr (false, -2147483648, 2147483647), .inr (false, -2147483648, 2147483647)], [], some (.inr (false, -2147483648, 2147483647)), false, [(75, false, 0, 324)])
def at_q98 : at_C := (143, [.inl (0, some 0), .inr (false, -2147483648, 2147483647), .inr (false, -2147483648, 2147483647)], [], some (.inr (false, -277776, 277776)), false, [])
def at_q99 : at_C := (144, [.inl (0, some 0)], [], some (.inr (false, -2147483648, 2147483647)), false, [])
def at_q100 : at_C := (145, [.inl (0, some 0), .inr (false, -2147483648, 2147483647)], [], some (.inr (false, -2147483648, 2147483647)), false, [])
def at_q101 : at_C := (146, [.inl (0, some 0), .inr (false, -2147483648, 2147483647)], [], some (.inr (false, -4158, 8358)), false, [])
def at_q102 : at_C := (147, [.inl (0, some 0), .inr (false, -2147483648, 2147483647)], [], some (.inr (false, 0, 1000)), false, [])
def at_q103 : at_C := (148, [.inl (0, some 0), .inr (false, -2147483648, 2147483647)], [], some (.inr (false, -2147483648, 2147483647)), false, [])
def at_q104 : at_C := (149, [.inl (0, some 0), .inr (false, -2147483648, 2147483647)], [], some (.inr (false, -1, 15)), false, [])
def at_q105 : at_C := (150, [.inl (0, some 0)], [], some (.inr (false, -1000, 9999000)), false, [])
def at_q106 : at_C := (151, [.inl (0, some 0), .inr (false, -2147483648, 2147483647)], [], some (.inr (false, 0, 1)), false, [])
def at_q107 : at_C := (152, [.inl (0, some 0), .inr (false, -2147483648, 2147483647)], [], some (.inr (false, -2147483648, 2147483647)), false, [])
def at_q108 : at_C := (153, [.inl (0, some 0), .inr (false, -2147483648, 2147483647), .inr (false, -2147483648, 2147483647)], [], some (.inr (false, -2147483648, 2147483647)), false, [])
def at_q109 : at_C := (154, [.inl (0, some 0), .inr (false, -2147483648, 2147483647), .inr (false, -2147483648, 2147483647)], [], some (.inr (false, -2147483648, 2147483647)), false, [])
def at_q110 : at_C := (155, [.inl (0, some 0), .inr (false, -2147483648, 2147483647)], [], some (.inr (false, -1000000000, 2147483647)), false, [])
def at_q111 : at_C := (158, [.inl (0, some 0)], [], some (.inr (false, 0, 20)), false, [])
def at_q112 : at_C := (33, [.inl (49, some 181), .inl (1, some 1)], [], none, false, [(49, false, 5, 16), (51, false, 6, 8), (52, false, 0, 29), (53, false, 0, 2), (54, false, 0, 23), (55, false, 0, 11), (56, false, 0, 47), (57, false, 0, 39), (58, false, 3, 6), (59, false, 0, 10), (60, false, 0, 3), (61, false, 2, 3), (62, false, 0, 71), (64, false, 2, 3), (65, false, 0, 95), (66, false, 0, 18), (67, false, 2, 2), (68, false, 0, 31), (69, false, 0, 10), (70, false, 2, 3), (71, false, 0, 15), (72, false, 0, 15)])
def at_q113 : at_C := (38, [.inl (49, some 181), .inr (false, -2147483648, 2147483647)], [], some (.inr (false, -2147483648, 2147483647)), false, [])
def at_q114 : at_C := (53, [.inl (49, some 181)], [], some (.inr (false, -2147483648, 2147483647)), false, [])
def at_q115 : at_C := (54, [.inl (49, some 181), .inr (false, -2147483648, 2147483647)], [], some (.inr (false, 0, 1)), false, [])
def at_q116 : at_C := (58, [.inl (49, some 181)], [], some (.inr (false, 0, 1)), false, [(49, false, 7, 8)])
def at_q117 : at_C := (79, [.inl (51, some 183), .inr (false, -2147483648, 2147483647)], [], some (.inr (false, -2147483648, 2147483647)), false, [])
def at_q118 : at_C := (9, [.inl (66, none), .inr (false, -2147483648, 2147483647), .inl (51, some 183)], [], some (.inr (false, 0, 2147483647)), false, [])
def at_q119 : at_C := (51, [.inl (49, some 181), .inr (false, -2147483648, 2147483647)], [], some (.inr (false, -1, 15)), false, [])
def at_q120 : at_C := (60, [.inl (49, some 181), .inr (false, -2147483648, 2147483647)], [], none, false, [(66, false, 18, 18)])
def at_q121 : at_C := (59, [.inl (49, some 181)], [], none, false, [(49, false, 9, 9), (66, false, 18, 18)])
def at_q122 : at_C := (6, [.inl (66, none), .inr (false, -2147483648, 2147483647)], [], none, false, [(66, false, 8, 8)])
def at_q123 : at_C := (5, [.inl (66, none), .inr (false, -2147483648, 2147483647)], [], none, false, [(66, false, 2, 4)])
def at_q124 : at_C := (10, [.inl (66, none), .inr (false, -2147483648, 2147483647), .inl (51, some 183)], [], none, false, [(66, false, 0, 0), (66, false, 2, 4), (66, false, 6, 9)])
def at_q125 : at_C := (61, [.inl (49, some 181)], [], none, false, [(66, false, 0, 0), (66, false, 2, 4), (66, false, 6, 9)])
def at_q126 : at_C := (13, [.inl (66, none), .inr (false, -2147483648, 2147483647)], [], none, false, [(66, false, 2, 4), (66, false, 8, 8)])
def at_q127 : at_C := (39, [.inl (49, some 181)], [], some (.inr (false, 0, 1000)), false, [])
def at_q128 : at_C := (12, [.inl (66, none), .inr (false, -2147483648, 2147483647)], [], some (.inr (false, -2147483648, 35996400)), false, [(66, false, 2, 4), (66, false, 8, 8)])
def at_q129 : at_C := (64, [.inl (49, some 181), .inr (false, -2147483648, 2147483647), .inr (false, -2147483648, 2147483647)], [], some (.inr (false, -1, 15)), false, [])
def at_q130 : at_C := (63, [.inl (49, some 181)], [], none, false, [(49, false, 11, 11), (49, false, 13, 13), (49, false, 16, 16), (66, false, 2, 4), (66, false, 8, 8)])
def at_q131 : at_C := (62, [.inl (49, some 181)], [], none, false, [(49, false, 11, 11), (49, false, 13, 16), (66, false, 2, 4), (66, false, 8, 8)])
def at_q132 : at_C := (67, [.inl (49, some 181)], [], none, false, [(52, false, 20, 20)])
def at_q133 : at_C := (14, [.inl (66, none), .inr (false, -2147483648, 2147483647), .inr (false, -2147483648, 2147483647)], [], none, false, [(66, false, 11, 11), (66, false, 14, 14), (66, false, 16, 16)])
def at_q134 : at_C := (15, [.inl (66, none)], [], none, false, [(66, false, 8, 8), (66, false, 15, 17)])
def at_q135 : at_C := (66, [.inl (49, some 181)], [], none, false, [(49, false, 8, 8), (49, false, 12, 12), (52, false, 20, 20), (66, false, 8, 8), (66, false, 11, 11), (66, false, 14, 17)])
def at_q136 : at_C := (68, [.inl (49, some 181)], [], some (.inr (false, -2147483648, 2147483647)), false, [(60, false, 0, 3)])
def at_q137 : at_C := (96, [.inl (58, some 190), .inr (false, 0, 1)], [], some (.inr (false, 0, 64)), false, [(58, false, 5, 5)])
def at_q138 : at_C := (41, [.inl (49, some 181), .inr (false, 0, 16), .inr (false, 0, 16)], [], some (.inr (false, -1000, 9999000)), false, [])
def at_q139 : at_C := (97, [.inl (58, some 190), .inr (false, 0, 1)], [], some (.inr (false, 0, 256)), false, [(58, false, 6, 6)])
def at_q140 : at_C := (98, [.inl (58, some 190), .inr (false, -2147483648, 2147483647)], [], some (.inr (false, 0, 512)), false, [(58, false, 4, 4)])
def at_q141 : at_C := (69, [.inl (49, some 181)], [], some (.inr (false, -2147483648, 2147483647)), false, [(58, false, 4, 6)])
def at_q142 : at_C := (99, [.inl (58, some 190), .inr (false, -2147483648, 2147483647), .inr (false, -2147483648, 2147483647)], [], some (.inr (false, -2147483648, 2147483647)), false, [(58, false, 3, 3), (59, false, 0, 10), (61, false, 2, 3), (62, false, -69, 140)])
def at_q143 : at_C := (91, [.inl (67, none)], [], none, false, [(67, false, 2, 2), (68, false, 1, 29), (69, false, 0, 10)])
def at_q144 : at_C := (88, [.inl (67, none), .inr (false, 0, 9999000)], [], none, false, [(67, false, 2, 2), (68, false, 0, 31), (69, false, 0, 10)])
def at_q145 : at_C := (16, [.inl (66, none), .inr (false, -2147483648, 2147483647)], [], none, false, [(66, false, 10, 10), (66, false, 12, 13), (67, false, 2, 2), (68, false, 0, 31), (69, false, 0, 10)])
def at_q146 : at_C := (70, [.inl (49, some 181)], [], none, false, [(64, false, 2, 3), (65, false, -93, 188), (66, false, 10, 10), (66, false, 12, 13), (67, false, 2, 2), (68, false, 0, 31), (69, false, 0, 10)])
def at_q147 : at_C := (72, [.inl (49, some 181), .inr (false, -2147483648, 2147483647)], [], some (.inr (false, -2147483648, 2147483647)), false, [])
def at_q148 : at_C := (71, [.inl (49, some 181)], [], none, false, [(52, false, 0, 29)])
def at_q149 : at_C := (57, [.inl (49, some 181)], [], some (.inr (false, -2147483648, 2147483647)), false, [(49, false, 6, 16), (52, false, 0, 29), (58, false, 3, 6), (59, false, 0, 10), (60, false, 0, 3), (61, false, 2, 3), (62, false, -69, 140), (64, false, 2, 3), (65, false, -93, 188), (66, false, 0, 0), (66, false, 2, 4), (66, false, 6, 18), (67, false, 2, 2), (68, false, 0, 31), (69, false, 0, 10)])
def at_q150 : at_C := (55, [.inl (49, some 181), .inr (false, -2147483648, 2147483647)], [], some (.inr (false, -2147483648, 2147483647)), false, [(49, false, 6, 16), (52, false, 0, 29), (58, false, 3, 6), (59, false, 0, 10), (60, false, 0, 3), (61, false, 2, 3), (62, false, -69, 140), (64, false, 2, 3), (65, false, -93, 188), (66, false, 0, 0), (66, false, 2, 4), (66, false, 6, 18), (67, false, 2, 2), (68, false, 0, 31), (69, false, 0, 10)])
def at_q151 : at_C := (159, [.inl (0, some 0), .inr (false, -2147483648, 2147483647), .inr (false, -2147483648, 2147483647)], [], some (.inr (false, -2147483648, 2147483647)), false, [(49, false, 5, 16), (51, false, 6, 8), (52, false, 0, 29), (53, false, 0, 2), (54, false, 0, 23), (55, false, 0, 11), (56, false, 0, 47), (57, false, 0, 39), (58, false, 3, 6), (59, false, 0, 10), (60, false, 0, 3), (61, false, 2, 3), (62, false, -69, 140), (64, false, 2, 3), (65, false, -93, 188), (66, false, 0, 18), (67, false, 2, 2), (68, false, 0, 31), (69, false, 0, 10), (70, false, 2, 3), (71, false, 0, 15), (72, false, 0, 15)])
def at_q152 : at_C := (160, [.inl (0, some 0), .inr (false, -2147483648, 2147483647), .inr (false, -2147483648, 2147483647), .inr (false, -2147483648, 2147483647)], [], some (.inr (false, -2147483648, 2147483647)), false, [(49, false, 5, 16), (51, false, 6, 8), (52, false, 0, 29), (53, false, 0, 2), (54, false, 0, 23), (55, false, 0, 11), (56, false, 0, 47), (57, false, 0, 39), (58, false, 3, 6), (59, false, 0, 10), (60, false, 0, 3), (61, false, 2, 3), (62, false, -69, 140), (64, false, 2, 3), (65, false, -93, 188), (66, false, 0, 18), (67, false, 2, 2), (68, false, 0, 31), (69, false, 0, 10), (70, false, 2, 3), (71, false, 0, 15), (72, false, 0, 15)])
def at_q153 : at_C := (56, [.inl (49, some 181)], [], some (.inr (false, -2147483648, 2147483647)), false, [(49, false, 6, 16), (52, false, 0, 29), (58, false, 3, 6), (59, false, 0, 10), (60, false, 0, 3), (61, false, 2, 3), (62, false, -69, 140), (64, false, 2, 3), (65, false, -93, 188), (66, false, 0, 0), (66, false, 2, 4), (66, false, 6, 18), (67, false, 2, 2), (68, false, 0, 31), (69, false, 0, 10)])
def at_q154 : at_C := (161, [.inl (0, some 0), .inr (false, -2147483648, 2147483647)], [], some (.inr (false, -2147483648, 2147483647)), false, [(49, false, 5, 16), (51, false, 6, 8), (52, false, 0, 29), (53, false, 0, 2), (54, false, 0, 23), (55, false, 0, 11), (56, false, 0, 47), (57, false, 0, 39), (58, false, 3, 6), (59, false, 0, 10), (60, false, 0, 3), (61, false, 2, 3), (62, false, -69, 140), (64, false, 2, 3), (65, false, -93, 188), (66, false, 0, 18), (67, false, 2, 2), (68, false, 0, 31), (69, false, 0, 10), (70, false, 2, 3), (71, false, 0, 15), (72, false, 0, 15)])
def at_q155 : at_C := (162, [.inl (0, some 0)], [], some (.inr (false, -1, 2000)), false, [(49, false, 5, 16), (51, false, 6, 8), (52, false, 0, 29), (53, false, 0, 2), (54, false, 0, 23), (55, false, 0, 11), (56, false, 0, 47), (57, false, 0, 39), (58, false, 3, 6), (59, false, 0, 10), (60, false, 0, 3), (61, false, 2, 3), (62, false, -69, 140), (64, false, 2, 3), (65, false, -93, 188), (66, false, 0, 18), (67, false, 2, 2), (68, false, 0, 31), (69, false, 0, 10), (70, false, 2, 3), (71, false, 0, 15), (72, false, 0, 15)])
def at_q156 : at_C := (163, [.inl (0, some 0), .inr (false, -2147483648, 2147483647)], [], some (.inr (false, -2147483648, 2147483647)), false, [(49, false, 5, 16), (51, false, 6, 8), (52, false, 0, 29), (53, false, 0, 2), (54, false, 0, 23), (55, false, 0, 11), (56, false, 0, 47), (57, false, 0, 39), (58, false, 3, 6), (59, false, 0, 10), (60, false, 0, 3), (61, false, 2, 3), (62, false, -69, 140), (64, false, 2, 3), (65, false, -93, 188), (66, false, 0, 18), (67, false, 2, 2), (68, false, 0, 31), (69, false, 0, 10), (70, false, 2, 3), (71, false, 0, 15), (72, false, 0, 15)])
def at_q157 : at_C := (170, [.inl (0, some 0), .inr (false, -2147483648, 2147483647), .inr (false, -2147483648, 2147483647)], [], some (.inr (false, 0, 1)), false, [(49, false, 5, 16), (51, false, 6, 8), (52, false, 0, 29), (53, false, 0, 2), (54, false, 0, 23), (55, false, 0, 11), (56, false, 0, 47), (57, false, 0, 39), (58, false, 3, 6), (59, false, 0, 10), (60, false, 0, 3), (61, false, 2, 3), (62, false, -69, 140), (64, false, 2, 3), (65, false, -93, 188), (66, false, 0, 18), (67, false, 2, 2), (68, false, 0, 31), (69, false, 0, 10), (70, false, 2, 3), (71, false, 0, 15), (72, false, 0, 15)])
def at_q158 : at_C := (164, [.inl (0, some 0), .inr (false, -2147483648, 2147483647), .inr (false, -2147483648, 2147483647)], [], some (.inr (false, -2147483600, 2147483600)), false, [(49, false, 5, 16), (51, false, 6, 8), (52, false, 0, 29), (53, false, 0, 2), (54, false, 0, 23), (55, false, 0, 11), (56, false, 0, 47), (57, false, 0, 39), (58, false, 3, 6), (59, false, 0, 10), (60, false, 0, 3), (61, false, 2, 3), (62, false, -69, 140), (64, false, 2, 3), (65, false, -93, 188), (66, false, 0, 18), (67, false, 2, 2), (68, false, 0, 31), (69, false, 0, 10), (70, false, 2, 3), (71, false, 0, 15), (72, false, 0, 15)])
def at_q159 : at_C := (169, [.inl (0, some 0), .inr (false, -2147483648, 2147483647), .inr (false, 0, 29), .inr (false, -2147483648, 2147483647)], [], some (.inr (false, -1000, 9999000)), false, [(49, false, 5, 16), (51, false, 6, 8), (52, false, 0, 29), (53, false, 0, 2), (54, false, 0, 23), (55, false, 0, 11), (56, false, 0, 47), (57, false, 0, 39), (58, false, 3, 6), (59, false, 0, 10), (60, false, 0, 3), (61, false, 2, 3), (62, false, -69, 140), (64, false, 2, 3), (65, false, -93, 188), (66, false, 0, 18), (67, false, 2, 2), (68, false, 0, 31), (69, false, 0, 10), (70, false, 2, 3), (71, false, 0, 15), (72, false, 0, 15)])
def at_q160 : at_C := (165, [.inl (0, some 0), .inr (false, -2147483648, 2147483647), .inr (false, -2147483648, 2147483647)], [], some (.inr (false, -1, 99)), false, [(49, false, 5, 16), (51, false, 6, 8), (52, false, 0, 29), (53, false, 0, 2), (54, false, 0, 23), (55, false, 0, 11), (56, false, 0, 47), (57, false, 0, 39), (58, false, 3, 6), (59, false, 0, 10), (60, false, 0, 3), (61, false, 2, 3), (62, false, -69, 140), (64, false, 2, 3), (65, false, -93, 188), (66, false, 0, 18), (67, false, 2, 2), (68, false, 0, 31), (69, false, 0, 10), (70, false, 2, 3), (71, false, 0, 15), (72, false, 0, 15)])
def at_q161 : at_C := (166, [.inl (0, some 0), .inr (false, -2147483648, 2147483647)], [], some (.inr (false, -1, 2000)), false, [(49, false, 5, 16), (51, false, 6, 8), (52, false, 0, 29), (53, false, 0, 2), (54, false, 0, 23), (55, false, 0, 11), (56, false, 0, 47), (57, false, 0, 39), (58, false, 3, 6), (59, false, 0, 10), (60, false, 0, 3), (61, false, 2, 3), (62, false, -69, 140), (64, false, 2, 3), (65, false, -93, 188), (66, false, 0, 18), (67, false, 2, 2), (68, false, 0, 31), (69, false, 0, 10), (70, false, 2, 3), (71, false, 0, 15), (72, false, 0, 15)])
def at_q162 : at_C := (49, [.inl (49, some 181), .inr (false, -2147483648, 2147483647)], [], some (.inr (false, 0, 1)), false, [])
def at_q163 : at_C := (167, [.inl (0, some 0), .inr (false, -2147483648, 2147483647)], [], some (.inr (false, -1, 2000)), false, [(49, false, 5, 16), (51, false, 6, 8), (52, false, 0, 29), (53, false, 0, 2), (54, false, 0, 23), (55, false, 0, 11), (56, false, 0, 47), (57, false, 0, 39), (58, false, 3, 6), (59, false, 0, 10), (60, false, 0, 3), (61, false, 2, 3), (62, false, -69, 140), (64, false, 2, 3), (65, false, -93, 188), (66, false, 0, 18), (67, false, 2, 2), (68, false, 0, 31), (69, false, 0, 10), (70, false, 2, 3), (71, false, 0, 15), (72, false, 0, 15)])
def at_q164 : at_C := (168, [.inl (0, some 0), .inr (false, -2147483648, 2147483647)], [], some (.inr (false, -1, 2)), false, [(49, false, 5, 16), (51, false, 6, 8), (52, false, 0, 29), (53, false, 0, 2), (54, false, 0, 23), (55, false, 0, 11), (56, false, 0, 47), (57, false, 0, 39), (58, false, 3, 6), (59, false, 0, 10), (60, false, 0, 3), (61, false, 2, 3), (62, false, -69, 140), (64, false, 2, 3), (65, false, -93, 188), (66, false, 0, 18), (67, false, 2, 2), (68, false, 0, 31), (69, false, 0, 10), (70, false, 2, 3), (71, false, 0, 15), (72, false, 0, 15)])
def at_q165 : at_C := (197, [.inl (76, some 277), .inr (false, 0, 15)], [(1, 0)], some (.inr (false, 0, 1000)), false, [])
def at_q166 : at_C := (243, [.inl (76, some 277), .inr (false, -2147483648, 2147483647), .inr (false, -2147483648, 2147483647), .inr (false, -2147483648, 2147483647)], [], some (.inr (false, -1, 15)), false, [(79, false, 0, 2), (79, false, 1420, 29779), (79, true, 0, 60)])
def at_q167 : at_C := (244, [.inl (76, some 277), .inr (false, -2147483648, 2147483647), .inr (false, -2147483648, 2147483647)], [], some (.inr (false, 0, 1)), false, [(79, false, 0, 1), (79, false, 1420, 29779), (79, true, 1, 1)])
def at_q168 : at_C := (245, [.inl (76, some 277), .inr (false, -2147483648, 2147483647), .inr (false, -2147483648, 2147483647)], [], some (.inr (false, 0, 1)), false, [(79, false, 0, 1), (79, false, 1420, 29779), (79, true, 3, 3)])
def at_q169 : at_C := (247, [.inl (76, some 277), .inr (false, -2147483648, 2147483647), .inr (false, -2147483648, 2147483647)], [], some (.inr (false, 0, 1)), false, [(79, false, 0, 1), (79, false, 34, 63), (79, false, 1420, 29779)])
def at_q170 : at_C := (198, [.inl (76, some 277), .inr (false, 0, 1000)], [], some (.inr (false, -2147483648, 2147483647)), false, [])
def at_q171 : at_C := (202, [.inl (76, some 277)], [], some (.inr (false, -2147483648, 2147483647)), false, [])
def at_q172 : at_C := (207, [.inl (76, some 277)], [], some (.inr (false, -2147483648, 2147483647)), false, [])
def at_q173 : at_C := (208, [.inl (76, some 277)], [], some (.inr (false, 0, 1)), false, [])
def at_q174 : at_C := (211, [.inl (76, some 277)], [], none, false, [(76, false, 4, 4), (79, false, 3, 4)])
def at_q175 : at_C := (209, [.inl (76, some 277), .inr (false, 0, 15), .inr (false, -2147483648, 2147483647)], [(1, 0)], some (.inr (false, 0, 2147483647)), false, [])
def at_q176 : at_C := (212, [.inl (76, some 277), .inr (false, -2147483648, 2147483647)], [], some (.inr (false, -1, 15)), true, [])
def at_q177 : at_C := (210, [.inl (76, some 277), .inr (false, -2147483648, 2147483647)], [], some (.inr (false, -99999, 99999)), false, [])
def at_q178 : at_C := (213, [.inl (76, some 277)], [], none, false, [(79, false, 5, 5), (79, true, 60, 60)])
def at_q179 : at_C := (218, [.inl (76, some 277)], [], none, false, [(79, false, 444, 1419), (79, true, 1, 1), (79, true, 3, 3)])
def at_q180 : at_C := (221, [.inl (76, some 277), .inr (false, 0, 14)], [(1, 1)], none, false, [(76, false, 6, 6), (79, false, 11, 12), (79, true, 1, 1), (79, true, 4, 4)])
def at_q181 : at_C := (204, [.inl (76, some 277)], [], some (.inr (false, 0, 1000)), false, [])
def at_q182 : at_C := (219, [.inl (76, some 277), .inr (false, -2147483648, 2147483647)], [], some (.inr (false, -1, 15)), true, [])
def at_q183 : at_C := (220, [.inl (76, some 277)], [], none, false, [(76, false, 6, 6), (79, false, 8, 8), (79, false, 10, 10), (79, false, 13, 13), (79, true, 1, 1), (79, true, 4, 4), (81, false, 0, 15)])
def at_q184 : at_C := (222, [.inl (76, some 277)], [], none, false, [(76, false, 6, 6), (79, false, 8, 8), (79, false, 10, 13), (79, true, 1, 1), (79, true, 4, 4), (81, false, 0, 15)])
def at_q185 : at_C := (203, [.inl (76, some 277)], [], some (.inr (false, -2147483648, 2147483647)), false, [])
def at_q186 : at_C := (223, [.inl (76, some 277), .inr (false, -2147483648, 2147483647)], [], some (.inr (false, 0, 1000)), false, [])
def at_q187 : at_C := (225, [.inl (76, some 277)], [], none, false, [(79, false, 4, 4), (79, false, 9, 9), (79, false, 14, 14), (79, true, 4, 4), (79, true, 11, 16)])
def at_q188 : at_C := (229, [.inl (76, some 277), .inr (false, -2147483648, 2147483647)], [], none, false, [(79, false, 20, 20), (79, false, 167, 214)])
def at_q189 : at_C := (228, [.inl (76, some 277), .inr (false, -2147483648, 2147483647)], [], some (.inr (false, -1, 15)), false, [])
def at_q190 : at_C := (205, [.inl (76, some 277)], [], some (.inr (false, -1000, 1000)), false, [])
def at_q191 : at_C := (227, [.inl (76, some 277), .inr (false, -2147483648, 2147483647)], [], some (.inr (false, 0, 1)), false, [])
def at_q192 : at_C := (230, [.inl (76, some 277)], [], some (.inr (false, -2147483648, 2147483647)), false, [(79, false, 3, 3), (79, false, 6, 6), (79, false, 15, 16), (79, false, 20, 20), (79, false, 22, 33), (79, false, 167, 214), (79, false, 311, 314)])
def at_q193 : at_C := (234, [.inl (76, some 277), .inr (false, 0, 15)], [(1, 0)], none, false, [(79, true, 10, 10), (79, true, 17, 59)])
def at_q194 : at_C := (233, [.inl (76, some 277), .inr (false, 0, 15)], [(1, 0)], none, false, [(79, true, 10, 10), (79, true, 17, 59)])
def at_q195 : at_C := (235, [.inl (76, some 277)], [], none, false, [(79, false, 21, 21), (79, false, 215, 310), (79, true, 7, 8), (79, true, 10, 10), (79, true, 17, 59)])
def at_q196 : at_C := (226, [.inl (76, some 277)], [], none, false, [(79, false, 54, 54)])
def at_q197 : at_C := (268, [.inl (76, some 277), .inr (false, -2147483648, 2147483647)], [], some (.inr (false, -2147483648, 2147483647)), false, [])
def at_q198 : at_C := (236, [.inl (76, some 277)], [], none, false, [(79, false, 34, 63)])
def at_q199 : at_C := (237, [.inl (76, some 277)], [], some (.inr (false, -2147483648, 2147483647)), false, [(76, false, 4, 4), (76, false, 6, 6), (79, false, 3, 16), (79, false, 20, 63), (79, false, 167, 314), (79, false, 444, 1419), (79, true, 1, 1), (79, true, 3, 4), (79, true, 7, 8), (79, true, 10, 60), (81, false, 0, 15)])
def at_q200 : at_C := (248, [.inl (76, some 277), .inr (false, -2147483648, 2147483647)], [], some (.inr (false, -2147483648, 2147483647)), false, [(76, false, 4, 4), (76, false, 6, 6), (79, false, 3, 16), (79, false, 20, 63), (79, false, 167, 314), (79, false, 444, 1419), (79, true, 1, 1), (79, true, 3, 4), (79, true, 7, 8), (79, true, 10, 60), (81, false, 0, 15)])
def at_q201 : at_C := (250, [.inl (76, some 277), .inr (false, -2147483648, 2147483647)], [], some (.inr (false, -2147483648, 2147483647)), false, [(76, false, 4, 4), (76, false, 6, 6), (79, false, 0, 1), (79, false, 3, 16), (79, false, 20, 63), (79, false, 167, 314), (79, false, 444, 29779), (79, true, 1, 1), (79, true, 3, 4), (79, true, 7, 8), (79, true, 10, 60), (81, false, 0, 15)])
def at_q202 : at_C := (251, [.inl (76, some 277)], [], some (.inr (false, 0, 1)), false, [(79, false, 0, 1), (79, false, 3, 3), (79, false, 1420, 29779)])
def at_q203 : at_C := (252, [.inl (76, some 277)], [], some (.inr (false, 0, 1)), false, [(79, false, 0, 1), (79, false, 3, 3), (79, false, 5, 5), (79, false, 1420, 29779)])
def at_q204 : at_C := (253, [.inl (76, some 277), .inr (false, -2147483648, 2147483647)], [], some (.inr (false, 0, 1)), false, [])
def at_q205 : at_C := (254, [.inl (76, some 277), .inr (false, -2147483648, 2147483647)], [], some (.inr (false, 0, 1)), false, [(79, false, 0, 1), (79, false, 6, 6), (79, false, 1420, 29779)])
def at_q206 : at_C := (255, [.inl (76, some 277)], [], some (.inr (false, -2147483648, 2147483647)), false, [(79, false, 0, 1), (79, false, 22, 22), (79, false, 1420, 29779)])
def at_q207 : at_C := (256, [.inl (76, some 277), .inr (false, -2147483648, 2147483647), .inr (false, -2147483648, 2147483647)], [], some (.inr (false, 0, 1)), false, [(79, false, 0, 1), (79, false, 315, 338), (79, false, 1420, 29779)])
def at_q208 : at_C := (257, [.inl (76, some 277), .inr (false, -2147483648, 2147483647)], [], some (.inr (false, 0, 1)), false, [(79, false, 0, 1), (79, false, 339, 443), (79, false, 1420, 29779)])
def at_q209 : at_C := (258, [.inl (76, some 277), .inr (false, -2147483648, 2147483647), .inr (false, -2147483648, 2147483647)], [], some (.inr (false, 0, 1)), false, [(79, false, 0, 1), (79, false, 64, 66), (79, false, 1420, 29779)])
def at_q210 : at_C := (259, [.inl (76, some 277), .inr (false, -2147483648, 2147483647), .inr (false, -2147483648, 2147483647)], [], some (.inr (false, -1, 6)), false, [(79, false, 0, 1), (79, false, 17, 17), (79, false, 67, 78), (79, false, 1420, 29779)])
def at_q211 : at_C := (260, [.inl (76, some 277), .inr (false, -2147483648, 2147483647), .inr (false, -2147483648, 2147483647)], [], some (.inr (false, -1, 24)), false, [(79, false, 0, 1), (79, false, 19, 19), (79, false, 119, 166), (79, false, 1420, 29779)])
def at_q212 : at_C := (261, [.inl (76, some 277), .inr (false, -2147483648, 2147483647), .inr (false, 0, 1), .inr (false, -2147483648, 2147483647), .inr (false, -2147483648, 2147483647), .inr (false, -2147483648, 2147483647)], [], some (.inr (false, -1, 8)), false, [(79, false, 0, 1), (79, false, 18, 18), (79, false, 79, 118), (79, false, 1420, 29779)])
def at_q213 : at_C := (263, [.inl (76, some 277)], [], some (.inr (false, 0, 8)), false, [(79, false, 0, 1), (79, false, 18, 18), (79, false, 79, 166), (79, false, 1420, 29779)])
def at_q214 : at_C := (264, [.inl (76, some 277)], [], some (.inr (false, 0, 24)), false, [(79, false, 0, 1), (79, false, 19, 19), (79, false, 79, 166), (79, false, 1420, 29779)])
def at_q215 : at_C := (265, [.inl (76, some 277)], [], some (.inr (false, -2147483648, 2147483647)), false, [])
def at_q216 : at_C := (266, [.inl (76, some 277)], [], some (.inr (false, -2147483648, 2147483647)), false, [(76, false, 4, 4), (76, false, 6, 6), (79, false, 3, 16), (79, false, 20, 63), (79, false, 167, 314), (79, false, 444, 1419), (79, true, 1, 1), (79, true, 3, 4), (79, true, 7, 8), (79, true, 10, 60), (81, false, 0, 15)])
def at_q217 : at_C := (267, [.inl (76, some 277)], [], some (.inr (false, -2147483648, 2147483647)), false, [(76, false, 4, 4), (76, false, 6, 6), (79, false, 0, 1), (79, false, 3, 16), (79, false, 20, 63), (79, false, 167, 314), (79, false, 444, 29779), (79, true, 1, 1), (79, true, 3, 4), (79, true, 7, 8), (79, true, 10, 60), (81, false, 0, 15)])
def at_q218 : at_C := (269, [.inl (76, some 277), .inr (false, -2147483648, 2147483647)], [], some (.inr (false, -1000000000, 99999)), false, [])
def at_q219 : at_C := (270, [.inl (76, some 277), .inr (false, 0, 15), .inr (false, -2147483648, 2147483647)], [(1, 0)], some (.inr (false, -2147483648, 2147483647)), false, [])
def at_q220 : at_C := (271, [.inl (76, some 277), .inr (false, -2147483648, 2147483647), .inr (false, -2147483648, 2147483647)], [], some (.inr (false, -2147483648, 2147483647)), false, [])
def at_q221 : at_C := (272, [.inl (76, some 277), .inr (false, -2147483648, 2147483647), .inr (false, -2147483648, 2147483647)], [], some (.inr (false, -2147483648, 2147483647)), false, [])
def at_q222 : at_C := (273, [.inl (76, some 277), .inr (false, -2147483648, 2147483647), .inr (false, -2147483648, 2147483647)], [], some (.inr (false, -2147483648, 2147483647)), false, [])
def at_q223 : at_C := (274, [.inl (76, some 277), .inr (false, -2147483648, 2147483647), .inr (false, -2147483648, 2147483647)], [], some (.inr (false, -2147483648, 2147483647)), false, [])
def at_q224 : at_C := (275, [.inl (76, some 277), .inr (false, -2147483648, 2147483647), .inr (false, -2147483648, 2147483647)], [], some (.inr (false, -2147483648, 2147483647)), false, [])
def at_q225 : at_C := (276, [.inl (76, some 277), .inr (false, -2147483648, 2147483647), .inr (false, -2147483648, 2147483647)], [], some (.inr (false, -1, 1000)), false, [])
def at_q226 : at_C := (277, [.inl (76, some 277), .inr (false, -2147483648, 2147483647)], [], some (.inr (false, -2147483648, 2147483647)), false, [])
def at_q227 : at_C := (278, [.inl (76, some 277)], [], some (.inr (false, -2147483648, 2147483647)), false, [])
def at_q228 : at_C := (279, [.inl (76, some 277), .inr (false, -2147483648, 2147483647)], [], some (.inr (false, -36096398, 36096398)), false, [])
def at_q229 : at_C := (280, [.inl (76, some 277), .inr (false, -2147483648, 2147483647), .inr (false, -2147483648, 2147483647)], [], some (.inr (false, -2147483648, 2147483647)), false, [])
def at_q230 : at_C := (281, [.inl (76, some 277)], [], some (.inr (false, -2147483648, 2147483647)), false, [])
def at_q231 : at_C := (282, [.inl (76, some 277), .inr (false, -2147483648, 2147483647)], [], some (.inr (false, -2147483648, 2147483647)), false, [])
def at_q232 : at_C := (283, [.inl (76, some 277), .inr (false, -2147483648, 2147483647)], [], some (.inr (false, -2147483648, 2147483647)), false, [])
def at_q233 : at_C := (284, [.inl (76, some 277), .inr (false, -2147483648, 2147483647)], [], some (.inr (false, 0, 1000)), false, [])
def at_q234 : at_C := (285, [.inl (76, some 277), .inr (false, -2147483648, 2147483647)], [], some (.inr (false, -99999, 99999)), false, [])
def at_q235 : at_C := (286, [.inl (76, some 277), .inr (false, -2147483648, 2147483647)], [], some (.inr (false, -1, 15)), false, [])
def at_q236 : at_C := (287, [.inl (76, some 277)], [], some (.inr (false, -1000, 1000)), false, [])
def at_q237 : at_C := (288, [.inl (76, some 277), .inr (false, -2147483648, 2147483647)], [], some (.inr (false, -2147483648, 2147483647)), false, [])
def at_q238 : at_C := (289, [.inl (76, some 277), .inr (false, -2147483648, 2147483647), .inr (false, -2147483648, 2147483647)], [], some (.inr (false, -2147483648, 2147483647)), false, [])
def at_q239 : at_C := (290, [.inl (76, some 277), .inr (false, -2147483648, 2147483647), .inr (false, -2147483648, 2147483647)], [], some (.inr (false, -2147483648, 2147483647)), false, [])
def at_q240 : at_C := (291, [.inl (76, some 277), .inr (false, -2147483648, 2147483647)], [], some (.inr (false, -1000000000, 2000000000)), false, [])
def at_q241 : at_C := (294, [.inl (76, some 277), .inr (false, -2147483648, 2147483647), .inr (false, -2147483648, 2147483647), .inr (false, -2147483648, 2147483647)], [], some (.inr (false, -2147483648, 2147483647)), false, [])
def at_q242 : at_C := (295, [.inl (76, some 277), .inr (false, -2147483648, 2147483647)], [], some (.inr (false, -1, 15)), false, [])
def at_q243 : at_C := (297, [.inl (76, some 277)], [], some (.inr (false, -2147483648, 2147483647)), false, [])
def at_q244 : at_C := (298, [.inl (76, some 277), .inr (false, -2147483648, 2147483647)], [], some (.inr (false, -2147483648, 2147483647)), false, [])
def at_q245 : at_C := (300, [.inl (76, some 277)], [], some (.inr (false, -2147483648, 2147483647)), false, [])
def at_q246 : at_C := (301, [.inl (76, some 277), .inr (false, -2147483648, 2147483647)], [], some (.inr (false, -2147483648, 2147483647)), false, [])
def at_q247 : at_C := (302, [.inl (76, some 277), .inr (false, -2147483648, 2147483647)], [], some (.inr (false, -2147483648, 2147483647)), false, [])
def at_q248 : at_C := (303, [.inr (false, 0, 255)], [], some (.inr (false, -2147483648, 2147483647)), false, [])
def at_q249 : at_C := (304, [.inl (76, some 277), .inr (false, -2147483648, 2147483647)], [], some (.inr (false, -2147483648, 2147483647)), false, [])
def at_q250 : at_C := (309, [.inl (76, some 277), .inr (false, -2147483648, 2147483647), .inr (false, -2147483648, 2147483647)], [], some (.inr (false, -277777, 277778)), false, [])
def at_q251 : at_C := (310, [.inl (76, some 277), .inr (false, -2147483648, 2147483647), .inr (false, -2147483648, 2147483647)], [], some (.inr (false, -2147483648, 2147483647)), false, [(76, false, 4, 4), (76, false, 6, 6), (79, false, 2, 1419), (79, true, 1, 1), (79, true, 3, 4), (79, true, 7, 8), (79, true, 10, 60), (81, false, 0, 15), (82, false, 0, 1417)])
def at_q252 : at_C := (311, [.inl (76, some 277), .inr (false, -2147483648, 2147483647), .inr (false, -2147483648, 2147483647), .inr (false, -2147483648, 2147483647)], [], some (.inr (false, -2147483648, 2147483647)), false, [(76, false, 4, 4), (76, false, 6, 6), (79, false, 2, 1419), (79, true, 1, 1), (79, true, 3, 4), (79, true, 7, 8), (79, true, 10, 60), (81, false, 0, 15), (82, false, 0, 1417)])
def at_q253 : at_C := (312, [.inl (76, some 277), .inr (false, -2147483648, 2147483647)], [], some (.inr (false, -2147483648, 2147483647)), false, [(76, false, 4, 4), (76, false, 6, 6), (79, false, 2, 1419), (79, true, 1, 1), (79, true, 3, 4), (79, true, 7, 8), (79, true, 10, 60), (81, false, 0, 15), (82, false, 0, 1417)])
def at_q254 : at_C := (313, [.inl (76, some 277)], [], some (.inr (false, -1, 2000)), false, [(76, false, 4, 4), (76, false, 6, 6), (79, false, 2, 1419), (79, true, 1, 1), (79, true, 3, 4), (79, true, 7, 8), (79, true, 10, 60), (81, false, 0, 15), (82, false, 0, 1417)])
def at_q255 : at_C := (314, [.inl (76, some 277), .inr (false, -2147483648, 2147483647)], [], some (.inr (false, -1, 10)), false, [(76, false, 4, 4), (76, false, 6, 6), (79, false, 2, 1419), (79, true, 1, 1), (79, true, 3, 4), (79, true, 7, 8), (79, true, 10, 60), (81, false, 0, 15), (82, false, 0, 1417)])
def at_q256 : at_C := (315, [.inl (76, some 277), .inr (false, -99999, 99999), .inr (false, -2147483648, 2147483647)], [], some (.inr (false, 0, 1)), false, [(76, false, 4, 4), (76, false, 6, 7), (79, false, 2, 1419), (79, true, 1, 1), (79, true, 3, 4), (79, true, 7, 8), (79, true, 10, 60), (81, false, 0, 15), (82, false, 0, 1417)])
def at_q257 : at_C := (316, [.inl (76, some 277), .inr (false, -2147483648, 2147483647), .inr (false, -2147483648, 2147483647)], [], some (.inr (false, -99900, 99900)), false, [(76, false, 4, 4), (76, false, 6, 7), (79, false, 2, 1419), (79, true, 1, 1), (79, true, 3, 4), (79, true, 7, 8), (79, true, 10, 60), (81, false, 0, 15), (82, false, 0, 1417)])
def at_q258 : at_C := (317, [.inl (76, some 277), .inr (false, -2147483648, 2147483647)], [], some (.inr (false, -1, 2000)), false, [(76, false, 4, 4), (76, false, 6, 7), (79, false, 2, 1419), (79, true, 1, 1), (79, true, 3, 4), (79, true, 7, 8), (79, true, 10, 60), (81, false, 0, 15), (82, false, 0, 1417)])
def at_q259 : at_C := (319, [.inl (76, some 277), .inr (false, -2147483648, 2147483647), .inr (false, -2147483648, 2147483647)], [], some (.inr (false, -1, 99)), false, [(76, false, 4, 4), (76, false, 6, 6), (79, false, 2, 1419), (79, true, 1, 1), (79, true, 3, 4), (79, true, 7, 8), (79, true, 10, 60), (81, false, 0, 15), (82, false, 0, 1417)])
def at_q260 : at_C := (320, [.inl (76, some 277), .inr (false, -2147483648, 2147483647)], [], some (.inr (false, 0, 1)), false, [])
def at_q261 : at_C := (321, [.inl (76, some 277), .inr (false, -2147483648, 2147483647)], [], some (.inr (false, -1, 2000)), false, [(76, false, 4, 4), (76, false, 6, 6), (79, false, 2, 1419), (79, true, 1, 1), (79, true, 3, 4), (79, true, 7, 8), (79, true, 10, 60), (81, false, 0, 15), (82, false, 0, 1417)])
def at_q262 : at_C := (322, [.inl (76, some 277), .inr (false, -2147483648, 2147483647)], [], some (.inr (false, -1, 2)), false, [(76, false, 4, 4), (76, false, 6, 6), (79, false, 2, 1419), (79, true, 1, 1), (79, true, 3, 4), (79, true, 7, 8), (79, true, 10, 60), (81, false, 0, 15), (82, false, 0, 1417)])
def at_q263 : at_C := (325, [.inl (76, some 277)], [], some (.inr (false, 0, 20)), false, [])
def at_jt0 : at_J := ((131, 18, some 0), none, [(1, some (false, -2147483648, 2147483647)), (3, some (false, 0, 16))], [], [], [], (16, [(-1, 0, 3)]))
def at_jt1 : at_J := ((138, 24, some 0), none, [(2, some (false, -2147483648, 2147483647)), (3, some (false, 0, 16))], [], [], [], (16, [(-1, 0, 3)]))
def at_jt2 : at_J := ((140, 33, some 0), none, [(3, some (false, -2147483648, 2147483647)), (4, some (false, 0, 15))], [], [], [], (15, [(-1, 0, 4)]))
def at_jt3 : at_J := ((141, 45, some 0), none, [(3, some (false, -1, 256)), (4, some (false, -2147483648, 2147483647)), (5, some (false, 1, 300)), (6, none)], [], [], [], (300, [(-1, 0, 5)]))
def at_jt4 : at_J := ((142, 45, some 0), none, [(4, some (true, -9223372036854775808, 1152921504606846976)), (6, some (false, 0, 15)), (7, none)], [], [], [], (15, [(-1, 0, 6)]))
def at_jt5 : at_J := ((143, 28, some 0), none, [(3, some (false, -1000000000, 35996400)), (4, some (false, 0, 16)), (5, none)], [], [], [], (16, [(-1, 0, 4)]))
def at_jt6 : at_J := ((144, 4, some 0), none, [(1, some (true, -9223372036854775808, 9223372036854775807)), (3, some (false, 0, 16))], [], [], [], (16, [(-1, 0, 3)]))
def at_jt7 : at_J := ((145, 17, some 0), none, [(2, some (false, -2147483648, 2147483647)), (3, some (false, 0, 16))], [], [], [], (16, [(-1, 0, 3)]))
def at_jt8 : at_J := ((155, 27, some 0), none, [(2, some (false, -1000000000, 2147483647)), (3, some (false, 0, 16)), (4, none)], [], [], [], (16, [(-1, 0, 3)]))
def at_jt9 : at_J := ((162, 13, some 0), none, [(1, some (false, 1, 9999)), (2, none)], [(49, false, 6, 16), (62, false, -69, 140), (65, false, -93, 188), (66, false, 0, 0), (66, false, 2, 4), (66, false, 6, 18)], [], [], (9999, [(-1, 0, 1)]))
def at_jt10 : at_J := ((163, 41, some 0), none, [(2, some (false, 0, 300)), (3, none)], [(49, false, 6, 16), (62, false, -69, 140), (65, false, -93, 188), (66, false, 0, 0), (66, false, 2, 4), (66, false, 6, 18)], [], [], (300, [(-1, 0, 2)]))
def at_jt11 : at_J := ((164, 84, some 0), none, [(5, some (false, -2147483600, 2147483600))], [(49, false, 5, 16), (51, false, 6, 8), (52, false, 0, 29), (53, false, 0, 2), (54, false, 0, 23), (55, false, 0, 11), (56, false, 0, 47), (57, false, 0, 39), (58, false, 3, 6), (59, false, 0, 10), (60, false, 0, 3), (61, false, 2, 3), (62, false, -69, 140), (64, false, 2, 3), (65, false, -93, 188), (66, false, 0, 18), (67, false, 2, 2), (68, false, 0, 31), (69, false, 0, 10), (70, false, 2, 3), (71, false, 0, 15), (72, false, 0, 15)], [], [], (2147483600, [(1, 0, 5)]))
def at_jt12 : at_J := ((165, 36, some 0), none, [(3, some (false, -1, 99))], [(49, false, 5, 16), (51, false, 6, 8), (52, false, 0, 29), (53, false, 0, 2), (54, false, 0, 23), (55, false, 0, 11), (56, false, 0, 47), (57, false, 0, 39), (58, false, 3, 6), (59, false, 0, 10), (60, false, 0, 3), (61, false, 2, 3), (62, false, -69, 140), (64, false, 2, 3), (65, false, -93, 188), (66, false, 0, 18), (67, false, 2, 2), (68, false, 0, 31), (69, false, 0, 10), (70, false, 2, 3), (71, false, 0, 15), (72, false, 0, 15)], [], [], (1, [(1, 0, 3)]))
def at_jt13 : at_J := ((166, 51, some 0), none, [(2, some (false, 1, 9999))], [(49, false, 6, 16), (52, false, 20, 20), (62, false, -69, 140), (65, false, -93, 188), (66, false, 0, 0), (66, false, 2, 4), (66, false, 6, 18)], [], [], (9999, [(-1, 0, 2)]))
def at_jt14 : at_J := ((167, 24, some 0), none, [(2, some (false, 0, 9999))], [(49, false, 6, 16), (62, false, -69, 140), (65, false, -93, 188), (66, false, 0, 0), (66, false, 2, 4), (66, false, 6, 18)], [], [], (9999, [(-1, 0, 2)]))
def at_jt15 : at_J := ((168, 32, some 0), none, [(2, some (false, -1, 2)), (3, some (false, -1000, 2147483647)), (4, some (false, 0, 3)), (5, none)], [(49, false, 5, 16), (51, false, 6, 8), (52, false, 0, 29), (53, false, 0, 2), (54, false, 0, 23), (55, false, 0, 11), (56, false, 0, 47), (57, false, 0, 39), (58, false, 3, 6), (59, false, 0, 10), (60, false, 0, 3), (61, false, 2, 3), (62, false, -69, 140), (64, false, 2, 3), (65, false, -93, 188), (66, false, 0, 18), (67, false, 2, 2), (68, false, 0, 31), (69, false, 0, 10), (70, false, 2, 3), (71, false, 0, 15), (72, false, 0, 15)], [], [], (3, [(-1, 0, 4)]))
def at_jt16 : at_J := ((169, 27, some 0), none, [(4, some (false, 0, 2147483647))], [(49, false, 6, 16), (52, false, 0, 29), (62, false, -69, 140), (65, false, -93, 188), (66, false, 0, 0), (66, false, 2, 4), (66, false, 6, 18)], [], [], (2147483647, [(-1, 0, 4)]))
def at_jt17 : at_J := ((170, 52, some 0), none, [(3, some (false, 0, 2147483647))], [(49, false, 6, 16), (52, false, 20, 20), (52, false, 23, 23), (62, false, -69, 140), (65, false, -93, 188), (66, false, 0, 0), (66, false, 2, 4), (66, false, 6, 18)], [], [], (2147483647, [(-1, 0, 3)]))
def at_jt18 : at_J := ((171, 29, some 0), none, [(3, some (false, 0, 24)), (4, none), (6, none), (7, none)], [(75, false, 0, 312)], [], [], (24, [(-1, 0, 3)]))
def at_jt19 : at_J := ((171, 60, some 0), none, [(6, some (false, -1, 24)), (7, none)], [(75, false, 0, 312)], [], [], (1, [(1, 0, 6)]))
def at_jt20 : at_J := ((171, 68, some 0), none, [(7, some (false, -1, 12))], [(75, false, 0, 324)], [], [], (1, [(1, 0, 7)]))
def at_jt21 : at_J := ((179, 8, none), none, [(1, some (false, 0, 1000)), (2, some (false, 0, 1000)), (3, some (false, 0, 10)), (4, none)], [], [], [], (10, [(-1, 0, 3)]))
def at_jt22 : at_J := ((202, 4, some 76), none, [(1, some (false, -2147483648, 2147483647)), (2, some (false, 0, 16))], [], [], [], (16, [(-1, 0, 2)]))
def at_jt23 : at_J := ((203, 4, some 76), none, [(1, some (false, -2147483648, 2147483647)), (2, some (false, 0, 16))], [], [], [], (16, [(-1, 0, 2)]))
def at_jt24 : at_J := ((204, 6, some 76), none, [(1, some (false, 0, 1000)), (2, some (false, 0, 16))], [], [], [], (16, [(-1, 0, 2)]))
def at_jt25 : at_J := ((205, 4, some 76), none, [(1, some (false, 0, 1000)), (2, some (false, 0, 16))], [], [], [], (16, [(-1, 0, 2)]))
def at_jt26 : at_J := ((207, 4, some 76), none, [(1, some (false, -2147483648, 2147483647)), (2, some (false, 0, 3))], [], [], [], (3, [(-1, 0, 2)]))
def at_jt27 : at_J := ((209, 84, some 76), none, [(6, some (false, -2147483648, 2147483647)), (7, some (false, 0, 7))], [], [], [], (7, [(-1, 0, 7)]))
def at_jt28 : at_J := ((210, 8, some 76), none, [(2, some (false, -99999, 99999)), (3, some (false, 0, 16))], [], [], [], (16, [(-1, 0, 3)]))
def at_jt29 : at_J := ((212, 4, some 76), none, [(2, some (false, -1, 15)), (3, some (false, 0, 16))], [], [], [(1, [(1, 0, 2), (-1, 2, 0)])], (16, [(-1, 0, 3)]))
def at_jt30 : at_J := ((218, 2, some 76), none, [(1, some (false, 0, 16))], [(79, true, 1, 1), (79, true, 3, 3)], [], [], (16, [(-1, 0, 1)]))
def at_jt31 : at_J := ((218, 25, some 76), none, [(1, some (false, 0, 15))], [(79, true, 3, 3)], [], [], (15, [(-1, 0, 1)]))
def at_jt32 : at_J := ((218, 50, some 76), none, [(1, some (false, 0, 16))], [(79, false, 444, 1419)], [], [], (16, [(-1, 0, 1)]))
def at_jt33 : at_J := ((219, 4, some 76), none, [(2, some (false, -1, 15)), (3, some (false, 0, 16))], [], [], [(1, [(1, 0, 2), (-1, 2, 0)])], (16, [(-1, 0, 3)]))
def at_jt34 : at_J := ((22, 15, some 73), none, [(2, some (false, 0, 20))], [(25, false, 5, 16), (27, false, 6, 8), (28, false, 0, 29), (29, false, 0, 2), (30, false, 0, 23), (31, false, 0, 11), (32, false, 0, 47), (33, false, 0, 39), (34, false, 3, 6), (35, false, 0, 10), (36, false, 0, 3), (37, false, 2, 3), (38, false, 0, 71), (40, false, 2, 3), (41, false, 0, 95), (42, false, 0, 18), (43, false, 2, 2), (44, false, 0, 31), (45, false, 0, 10), (46, false, 2, 3), (47, false, 0, 15), (48, false, 0, 15), (74, false, 0, 19)], [], [], (20, [(-1, 0, 2)]))
def at_jt35 : at_J := ((220, 40, some 76), none, [(3, some (false, 0, 16))], [(81, false, 0, 15)], [], [], (16, [(-1, 0, 3)]))
def at_jt36 : at_J := ((220, 81, some 76), some (3, -1), [(2, some (false, 1, 2147483647)), (3, some (false, -1, 15)), (4, none)], [(76, false, 6, 6), (79, false, 8, 8), (79, false, 10, 10), (79, false, 13, 13), (79, true, 1, 1), (79, true, 4, 4)], [], [(1, [(1, 0, 3), (-1, 2, 0)])], (0, [(1, 0, 2)]))
def at_jt37 : at_J := ((222, 57, some 76), none, [(1, some (false, 0, 16))], [(76, false, 6, 6), (79, false, 11, 12), (79, true, 1, 1), (79, true, 4, 4)], [], [], (16, [(-1, 0, 1)]))
def at_jt38 : at_J := ((223, 2, some 76), none, [(2, some (false, 0, 1000))], [], [], [], (1000, [(-1, 0, 2)]))
def at_jt39 : at_J := ((225, 163, some 76), none, [(2, some (false, 0, 16))], [(79, true, 4, 4), (79, true, 12, 13), (79, true, 16, 16)], [], [], (16, [(-1, 0, 2)]))
def at_jt40 : at_J := ((225, 17, some 76), none, [(2, some (false, 0, 16)), (3, none)], [(79, true, 11, 11), (79, true, 13, 15)], [], [], (16, [(-1, 0, 2)]))
def at_jt41 : at_J := ((226, 4, some 76), none, [(1, some (false, 0, 1)), (2, some (false, 0, 16))], [], [], [], (16, [(-1, 0, 2)]))
def at_jt42 : at_J := ((228, 2, some 76), none, [(2, some (false, 0, 16)), (3, none)], [], [], [], (16, [(-1, 0, 2)]))
def at_jt43 : at_J := ((229, 16, some 76), none, [(2, some (false, 167, 256))], [(79, false, 167, 212)], [], [], (256, [(-1, 0, 2)]))
def at_jt44 : at_J := ((230, 123, some 76), none, [(2, some (false, -2147483648, 2147483647)), (3, some (false, 0, 11))], [(79, false, 6, 6), (79, false, 20, 20), (79, false, 23, 33), (79, false, 167, 214), (79, false, 311, 314)], [], [], (11, [(-1, 0, 3)]))
def at_jt45 : at_J := ((230, 91, some 76), none, [(1, some (false, -2147483648, 2147483647)), (3, some (false, 0, 11))], [], [], [], (11, [(-1, 0, 3)]))
def at_jt46 : at_J := ((232, 2, some 76), none, [(3, some (false, 0, 31))], [(79, true, 17, 47)], [], [], (31, [(-1, 0, 3)]))
def at_jt47 : at_J := ((234, 2, some 76), none, [(2, some (false, 1, 1)), (3, none), (4, none), (5, none), (6, none)], [(79, true, 10, 10), (79, true, 17, 59)], [(none, (454, [(61, 0, 1)]), 1, 32)], [], (0, [(1, 1, 0)]))
def at_jt48 : at_J := ((235, 117, some 76), none, [(2, some (false, 0, 16)), (3, none)], [(79, true, 7, 8), (79, true, 10, 10), (79, true, 17, 59)], [], [], (16, [(-1, 0, 2)]))
def at_jt49 : at_J := ((235, 16, some 76), none, [(1, some (false, 215, 999))], [(79, false, 215, 307)], [], [], (999, [(-1, 0, 1)]))
def at_jt50 : at_J := ((236, 2, some 76), none, [(1, some (false, 0, 8)), (2, none), (3, none)], [(79, false, 34, 63)], [], [], (8, [(-1, 0, 1)]))
def at_jt51 : at_J := ((243, 71, some 76), none, [(5, some (false, 0, 61))], [(79, true, 0, 60)], [], [], (61, [(-1, 0, 5)]))
def at_jt52 : at_J := ((248, 4, some 76), none, [(2, some (false, -2147483648, 2147483647)), (3, some (false, 0, 2147483647))], [(76, false, 4, 4), (76, false, 6, 6), (79, false, 3, 16), (79, false, 20, 63), (79, false, 167, 314), (79, false, 444, 1419), (79, true, 1, 1), (79, true, 3, 4), (79, true, 7, 8), (79, true, 10, 60), (81, false, 0, 15)], [], [], (2147483647, [(-1, 0, 3)]))
def at_jt53 : at_J := ((257, 62, some 76), none, [(3, some (false, 0, 16))], [(79, false, 342, 443)], [], [], (16, [(-1, 0, 3)]))
def at_jt54 : at_J := ((262, 15, some 76), none, [(5, some (false, 79, 256))], [(79, false, 79, 166)], [], [], (256, [(-1, 0, 5)]))
def at_jt55 : at_J := ((265, 4, some 76), none, [(1, some (false, -2147483648, 2147483647)), (2, some (false, 0, 24))], [], [], [], (24, [(-1, 0, 2)]))
def at_jt56 : at_J := ((266, 35, some 76), none, [(1, some (false, -2147483648, 2147483647)), (3, some (false, 0, 99))], [(76, false, 4, 4), (76, false, 6, 6), (79, false, 3, 16), (79, false, 20, 63), (79, false, 167, 314), (79, false, 444, 1419), (79, true, 1, 1), (79, true, 3, 4), (79, true, 7, 8), (79, true, 10, 60), (81, false, 0, 15)], [], [], (99, [(-1, 0, 3)]))
def at_jt57 : at_J := ((266, 4, some 76), none, [(1, some (false, -2147483648, 2147483647)), (2, some (false, 0, 24)), (3, none)], [(76, false, 4, 4), (76, false, 6, 6), (79, false, 3, 16), (79, false, 20, 63), (79, false, 167, 314), (79, false, 444, 1419), (79, true, 1, 1), (79, true, 3, 4), (79, true, 7, 8), (79, true, 10, 60), (81, false, 0, 15)], [], [], (24, [(-1, 0, 2)]))
def at_jt58 : at_J := ((273, 56, some 76), none, [(3, some (false, -2147483648, 2147483647)), (4, some (false, -2000000000, 2147483647)), (5, some (false, 0, 1000)), (6, some (false, 0, 1000)), (7, some (false, -2147483648, 2147483647)), (8, some (false, 0, 16))], [], [], [], (16, [(-1, 0, 8)]))
def at_jt59 : at_J := ((278, 11, some 76), none, [(1, some (false, -2147483648, 2147483647)), (3, some (false, 0, 16))], [], [], [], (16, [(-1, 0, 3)]))
def at_jt60 : at_J := ((281, 4, some 76), none, [(1, some (true, -9223372036854775808, 9223372036854775807)), (3, some (false, 0, 16))], [], [], [], (16, [(-1, 0, 3)]))
def at_jt61 : at_J := ((282, 17, some 76), none, [(2, some (false, -2147483648, 2147483647)), (3, some (false, 0, 16))], [], [], [], (16, [(-1, 0, 3)]))
def at_jt62 : at_J := ((291, 25, some 76), none, [(2, some (false, -1000000000, 2000000000)), (3, some (false, 0, 16))], [], [], [], (16, [(-1, 0, 3)]))
def at_jt63 : at_J := ((295, 17, some 76), none, [(3, some (false, -2147483648, 2147483647)), (4, some (false, 0, 16))], [], [], [], (16, [(-1, 0, 4)]))
def at_jt64 : at_J := ((295, 2, some 76), none, [(2, some (false, 0, 16)), (3, none), (4, none)], [], [], [], (16, [(-1, 0, 2)]))
def at_jt65 : at_J := ((297, 20, some 76), none, [(2, some (false, -2147483648, 2147483647)), (3, some (false, 0, 16))], [], [], [], (16, [(-1, 0, 3)]))
def at_jt66 : at_J := ((299, 7, some 76), none, [(1, some (true, -9223372036854775808, 9223372036854775807)), (3, some (true, 0, 575942400)), (5, some (false, 0, 16))], [], [], [(0, [(360000, 0, 5), (-1, 0, 3)]), (0, [(1, 0, 3), (-35996400, 0, 5)])], (16, [(-1, 0, 5)]))
def at_jt67 : at_J := ((301, 24, some 76), none, [(2, some (false, -2147483648, 2147483647)), (3, some (false, 0, 15))], [], [], [], (15, [(-1, 0, 3)]))
def at_jt68 : at_J := ((302, 4, some 76), none, [(2, some (false, -2147483648, 2147483647)), (3, some (false, 0, 16))], [], [], [], (16, [(-1, 0, 3)]))
def at_jt69 : at_J := ((303, 4, none), none, [(1, some (false, -2147483648, 2147483647)), (2, some (false, 0, 255))], [], [], [], (0, [(1, 0, 2)]))
def at_jt70 : at_J := ((304, 42, some 76), none, [(2, some (false, -1, 256)), (3, some (false, 1, 300))], [], [], [], (300, [(-1, 0, 3)]))
def at_jt71 : at_J := ((309, 28, some 76), none, [(3, some (false, -1000000000, 35996400)), (4, some (false, 0, 16))], [], [], [], (16, [(-1, 0, 4)]))
def at_jt72 : at_J := ((313, 10, some 76), none, [(1, some (false, 0, 2000)), (2, some (false, -2147483648, 2147483647)), (3, some (false, 0, 1))], [(76, false, 4, 4), (76, false, 6, 6), (79, false, 3, 16), (79, false, 20, 63), (79, false, 167, 314), (79, false, 444, 1419), (79, true, 1, 1), (79, true, 3, 4), (79, true, 7, 8), (79, true, 10, 60), (81, false, 0, 15)], [], [], (2000, [(-1, 0, 1)]))
def at_jt73 : at_J := ((314, 30, some 76), none, [(3, some (false, -2147483648, 2147483647)), (4, some (false, 0, 300))], [(76, false, 4, 4), (76, false, 6, 6), (79, false, 3, 16), (79, false, 20, 63), (79, false, 167, 314), (79, false, 444, 1419), (79, true, 1, 1), (79, true, 3, 4), (79, true, 7, 8), (79, true, 10, 60), (81, false, 0, 15)], [], [], (300, [(-1, 0, 4)]))
def at_jt74 : at_J := ((314, 71, some 76), none, [(5, some (false, 0, 11))], [], [], [], (11, [(-1, 0, 5)]))
def at_jt75 : at_J := ((315, 22, some 76), none, [(3, some (false, 0, 1)), (4, some (false, 0, 2147483647))], [(76, false, 4, 4), (76, false, 6, 6), (79, false, 3, 16), (79, false, 20, 63), (79, false, 167, 314), (79, false, 444, 1419), (79, true, 1, 1), (79, true, 3, 4), (79, true, 7, 8), (79, true, 10, 60), (81, false, 0, 15)], [], [], (2147483647, [(-1, 0, 4)]))
def at_jt76 : at_J := ((316, 43, some 76), none, [(3, some (false, -99900, 99900))], [(76, false, 4, 4), (76, false, 6, 7), (79, false, 2, 1419), (79, true, 1, 1), (79, true, 3, 4), (79, true, 7, 8), (79, true, 10, 60), (81, false, 0, 15), (82, false, 0, 1417)], [], [], (99900, [(1, 0, 3)]))
def at_jt77 : at_J := ((317, 37, some 76), none, [(2, some (false, 0, 2000)), (3, some (false, -2147483648, 2147483647)), (4, some (false, 0, 1))], [(76, false, 4, 4), (76, false, 6, 6), (79, false, 3, 16), (79, false, 20, 63), (79, false, 167, 314), (79, false, 444, 1419), (79, true, 1, 1), (79, true, 3, 4), (79, true, 7, 8), (79, true, 10, 60), (81, false, 0, 15)], [], [], (2000, [(-1, 0, 2)]))
def at_jt78 : at_J := ((319, 35, some 76), none, [(3, some (false, -1, 99))], [(76, false, 4, 4), (76, false, 6, 6), (79, false, 2, 1419), (79, true, 1, 1), (79, true, 3, 4), (79, true, 7, 8), (79, true, 10, 60), (81, false, 0, 15), (82, false, 0, 1417)], [], [], (1, [(1, 0, 3)]))
def at_jt79 : at_J := ((320, 2, some 76), none, [(2, some (false, 0, 16))], [], [], [], (16, [(-1, 0, 2)]))
def at_jt80 : at_J := ((321, 26, some 76), none, [(2, some (false, 0, 2000)), (3, some (false, -2147483648, 2147483647)), (4, some (false, 0, 1))], [(76, false, 4, 4), (76, false, 6, 6), (79, false, 3, 16), (79, false, 20, 63), (79, false, 167, 314), (79, false, 444, 1419), (79, true, 1, 1), (79, true, 3, 4), (79, true, 7, 8), (79, true, 10, 60), (81, false, 0, 15)], [], [], (2000, [(-1, 0, 2)]))
def at_jt81 : at_J := ((322, 36, some 76), none, [(2, some (false, 0, 2)), (3, some (false, -1000, 1000)), (4, some (false, 1, 3)), (5, none)], [(79, false, 2, 1419)], [], [], (3, [(-1, 0, 4)]))
def at_jt82 : at_J := ((33, 2, some 1), none, [(2, some (false, 0, 16))], [(18, false, 0, 18), (19, false, 2, 2), (20, false, 0, 31), (21, false, 0, 10)], [], [], (16, [(-1, 0, 2)]))
def at_jt83 : at_J := ((33, 2, some 25), none, [(2, some (false, 0, 16))], [(42, false, 0, 18), (43, false, 2, 2), (44, false, 0, 31), (45, false, 0, 10)], [], [], (16, [(-1, 0, 2)]))
def at_jt84 : at_J := ((33, 2, some 49), none, [(2, some (false, 0, 16))], [(66, false, 0, 18), (67, false, 2, 2), (68, false, 0, 31), (69, false, 0, 10)], [], [], (16, [(-1, 0, 2)]))
def at_jt85 : at_J := ((33, 33, some 1), none, [(2, some (false, 0, 3))], [(22, false, 2, 3), (23, false, 0, 15), (24, false, 0, 15)], [], [], (3, [(-1, 0, 2)]))
def at_jt86 : at_J := ((33, 33, some 25), none, [(2, some (false, 0, 3))], [(46, false, 2, 3), (47, false, 0, 15), (48, false, 0, 15)], [], [], (3, [(-1, 0, 2)]))
def at_jt87 : at_J := ((33, 33, some 49), none, [(2, some (false, 0, 3))], [(70, false, 2, 3), (71, false, 0, 15), (72, false, 0, 15)], [], [], (3, [(-1, 0, 2)]))
def at_jt88 : at_J := ((337, 6, some 75), none, [(3, some (false, 0, 999))], [(75, false, 0, 324)], [], [], (999, [(-1, 0, 3)]))
def at_jt89 : at_J := ((338, 5, some 21), none, [(2, some (false, 0, 11))], [(21, false, 0, 10)], [], [], (11, [(-1, 0, 2)]))
def at_jt90 : at_J := ((36, 9, some 1), none, [(3, some (false, 0, 16))], [(23, false, 0, 15), (24, false, 0, 15)], [], [], (16, [(-1, 0, 3)]))
def at_jt91 : at_J := ((38, 4, some 1), none, [(2, some (false, -2147483648, 2147483647)), (3, some (false, 0, 16))], [], [], [], (16, [(-1, 0, 3)]))
def at_jt92 : at_J := ((38, 4, some 49), none, [(2, some (false, -2147483648, 2147483647)), (3, some (false, 0, 16))], [], [], [], (16, [(-1, 0, 3)]))
def at_jt93 : at_J := ((39, 6, some 1), none, [(1, some (false, 0, 1000)), (2, some (false, 0, 16))], [], [], [], (16, [(-1, 0, 2)]))
def at_jt94 : at_J := ((39, 6, some 49), none, [(1, some (false, 0, 1000)), (2, some (false, 0, 16))], [], [], [], (16, [(-1, 0, 2)]))
def at_jt95 : at_J := ((41, 10, some 1), none, [(3, some (false, 0, 1000)), (4, some (false, 0, 9999000)), (5, some (false, 0, 16))], [], [], [], (16, [(-1, 0, 5)]))
def at_jt96 : at_J := ((41, 10, some 49), none, [(3, some (false, 0, 1000)), (4, some (false, 0, 9999000)), (5, some (false, 0, 16))], [], [], [], (16, [(-1, 0, 5)]))
def at_jt97 : at_J := ((42, 4, some 1), none, [(1, some (true, -9223372036854775808, 9223372036854775807)), (3, some (false, 0, 16))], [], [], [], (16, [(-1, 0, 3)]))
def at_jt98 : at_J := ((43, 4, some 1), none, [(1, some (true, -9223372036854775808, 9223372036854775807)), (3, some (false, 0, 16))], [], [], [], (16, [(-1, 0, 3)]))
def at_jt99 : at_J := ((45, 4, some 1), none, [(2, some (false, -2147483648, 2147483647)), (3, some (false, 0, 16))], [], [], [], (16, [(-1, 0, 3)]))
def at_jt100 : at_J := ((46, 2, some 1), none, [(2, some (false, 0, 16))], [], [], [], (16, [(-1, 0, 2)]))
def at_jt101 : at_J := ((47, 15, some 1), none, [(2, some (false, -2147483648, 2147483647)), (4, some (false, 0, 16)), (5, none)], [], [], [], (16, [(-1, 0, 4)]))
def at_jt102 : at_J := ((49, 2, some 49), none, [(2, some (false, 0, 16))], [], [], [], (16, [(-1, 0, 2)]))
def at_jt103 : at_J := ((51, 8, some 1), none, [(2, some (false, -1, 15)), (3, some (false, 0, 2147483647)), (4, some (false, 0, 16)), (5, none)], [], [], [], (16, [(-1, 0, 4)]))
def at_jt104 : at_J := ((51, 8, some 49), none, [(2, some (false, -1, 15)), (3, some (false, 0, 2147483647)), (4, some (false, 0, 16)), (5, none)], [], [], [], (16, [(-1, 0, 4)]))
def at_jt105 : at_J := ((53, 7, some 1), none, [(1, some (false, -2147483648, 2147483647)), (2, some (false, 0, 3))], [], [], [], (3, [(-1, 0, 2)]))
def at_jt106 : at_J := ((53, 7, some 49), none, [(1, some (false, -2147483648, 2147483647)), (2, some (false, 0, 3))], [], [], [], (3, [(-1, 0, 2)]))
def at_jt107 : at_J := ((55, 4, some 1), none, [(2, some (false, -2147483648, 2147483647)), (3, some (false, 0, 2147483647))], [(1, false, 6, 16), (4, false, 0, 29), (10, false, 3, 6), (11, false, 0, 10), (12, false, 0, 3), (13, false, 2, 3), (14, false, -69, 140), (16, false, 2, 3), (17, false, -93, 188), (18, false, 0, 0), (18, false, 2, 4), (18, false, 6, 18), (19, false, 2, 2), (20, false, 0, 31), (21, false, 0, 10)], [], [], (2147483647, [(-1, 0, 3)]))
def at_jt108 : at_J := ((55, 4, some 49), none, [(2, some (false, -2147483648, 2147483647)), (3, some (false, 0, 2147483647))], [(49, false, 6, 16), (52, false, 0, 29), (58, false, 3, 6), (59, false, 0, 10), (60, false, 0, 3), (61, false, 2, 3), (62, false, -69, 140), (64, false, 2, 3), (65, false, -93, 188), (66, false, 0, 0), (66, false, 2, 4), (66, false, 6, 18), (67, false, 2, 2), (68, false, 0, 31), (69, false, 0, 10)], [], [], (2147483647, [(-1, 0, 3)]))
def at_jt109 : at_J := ((56, 4, some 1), none, [(1, some (false, -2147483648, 2147483647)), (2, some (false, 0, 24)), (3, none), (4, none)], [(1, false, 6, 16), (4, false, 0, 29), (10, false, 3, 6), (11, false, 0, 10), (12, false, 0, 3), (13, false, 2, 3), (14, false, -69, 140), (16, false, 2, 3), (17, false, -93, 188), (18, false, 0, 0), (18, false, 2, 4), (18, false, 6, 18), (19, false, 2, 2), (20, false, 0, 31), (21, false, 0, 10)], [], [], (24, [(-1, 0, 2)]))
def at_jt110 : at_J := ((56, 4, some 49), none, [(1, some (false, -2147483648, 2147483647)), (2, some (false, 0, 24)), (3, none), (4, none)], [(49, false, 6, 16), (52, false, 0, 29), (58, false, 3, 6), (59, false, 0, 10), (60, false, 0, 3), (61, false, 2, 3), (62, false, -69, 140), (64, false, 2, 3), (65, false, -93, 188), (66, false, 0, 0), (66, false, 2, 4), (66, false, 6, 18), (67, false, 2, 2), (68, false, 0, 31), (69, false, 0, 10)], [], [], (24, [(-1, 0, 2)]))
def at_jt111 : at_J := ((56, 64, some 1), none, [(1, some (false, -2147483648, 2147483647)), (4, some (false, 0, 2147483647))], [(1, false, 6, 16), (4, false, 0, 29), (10, false, 3, 6), (11, false, 0, 10), (12, false, 0, 3), (13, false, 2, 3), (14, false, -69, 140), (16, false, 2, 3), (17, false, -93, 188), (18, false, 0, 0), (18, false, 2, 4), (18, false, 6, 18), (19, false, 2, 2), (20, false, 0, 31), (21, false, 0, 10)], [], [], (2147483647, [(-1, 0, 4)]))
def at_jt112 : at_J := ((56, 64, some 49), none, [(1, some (false, -2147483648, 2147483647)), (4, some (false, 0, 2147483647))], [(49, false, 6, 16), (52, false, 0, 29), (58, false, 3, 6), (59, false, 0, 10), (60, false, 0, 3), (61, false, 2, 3), (62, false, -69, 140), (64, false, 2, 3), (65, false, -93, 188), (66, false, 0, 0), (66, false, 2, 4), (66, false, 6, 18), (67, false, 2, 2), (68, false, 0, 31), (69, false, 0, 10)], [], [], (2147483647, [(-1, 0, 4)]))
def at_jt113 : at_J := ((61, 2, some 1), none, [(1, some (false, 0, 16))], [(18, false, 0, 0), (18, false, 2, 4), (18, false, 6, 9)], [], [], (16, [(-1, 0, 1)]))
def at_jt114 : at_J := ((61, 2, some 49), none, [(1, some (false, 0, 16))], [(66, false, 0, 0), (66, false, 2, 4), (66, false, 6, 9)], [], [], (16, [(-1, 0, 1)]))
def at_jt115 : at_J := ((61, 35, some 1), none, [(1, some (false, 0, 15)), (2, none)], [(18, false, 6, 6)], [], [], (15, [(-1, 0, 1)]))
def at_jt116 : at_J := ((61, 35, some 49), none, [(1, some (false, 0, 15)), (2, none)], [(66, false, 6, 6)], [], [], (15, [(-1, 0, 1)]))
def at_jt117 : at_J := ((62, 67, some 1), none, [(1, some (false, 0, 16))], [(1, false, 14, 15), (18, false, 2, 4), (18, false, 8, 8)], [], [], (16, [(-1, 0, 1)]))
def at_jt118 : at_J := ((62, 67, some 49), none, [(1, some (false, 0, 16))], [(49, false, 14, 15), (66, false, 2, 4), (66, false, 8, 8)], [], [], (16, [(-1, 0, 1)]))
def at_jt119 : at_J := ((63, 49, some 1), none, [(3, some (false, 0, 2147483647)), (4, none)], [(1, false, 16, 16)], [], [], (2147483647, [(-1, 0, 3)]))
def at_jt120 : at_J := ((63, 49, some 49), none, [(3, some (false, 0, 2147483647)), (4, none)], [(49, false, 16, 16)], [], [], (2147483647, [(-1, 0, 3)]))
def at_jt121 : at_J := ((63, 95, some 1), none, [(3, some (false, 0, 16))], [(1, false, 11, 11), (1, false, 13, 13), (18, false, 2, 4), (18, false, 8, 8)], [], [], (16, [(-1, 0, 3)]))
def at_jt122 : at_J := ((63, 95, some 49), none, [(3, some (false, 0, 16))], [(49, false, 11, 11), (49, false, 13, 13), (66, false, 2, 4), (66, false, 8, 8)], [], [], (16, [(-1, 0, 3)]))
def at_jt123 : at_J := ((64, 8, some 1), none, [(3, some (false, -1, 15)), (4, some (false, -2147483648, 2147483647)), (5, some (false, 0, 16))], [], [], [], (16, [(-1, 0, 5)]))
def at_jt124 : at_J := ((64, 8, some 49), none, [(3, some (false, -1, 15)), (4, some (false, -2147483648, 2147483647)), (5, some (false, 0, 16))], [], [], [], (16, [(-1, 0, 5)]))
def at_jt125 : at_J := ((66, 46, some 1), none, [(2, some (false, 0, 16))], [(18, false, 8, 8), (18, false, 11, 11), (18, false, 14, 17)], [], [], (16, [(-1, 0, 2)]))
def at_jt126 : at_J := ((66, 46, some 49), none, [(2, some (false, 0, 16))], [(66, false, 8, 8), (66, false, 11, 11), (66, false, 14, 17)], [], [], (16, [(-1, 0, 2)]))
def at_jt127 : at_J := ((67, 33, some 1), none, [(3, some (false, 0, 16)), (4, none)], [], [], [], (16, [(-1, 0, 3)]))
def at_jt128 : at_J := ((67, 33, some 49), none, [(3, some (false, 0, 16)), (4, none)], [], [], [], (16, [(-1, 0, 3)]))
def at_jt129 : at_J := ((68, 26, some 1), none, [(2, some (false, -1, 15)), (3, some (false, -1, 15)), (4, some (false, -1, 15)), (5, some (false, -1, 15)), (6, some (false, -1, 15)), (7, none), (8, none)], [], [], [], (1, [(1, 0, 6)]))
def at_jt130 : at_J := ((68, 26, some 49), none, [(2, some (false, -1, 15)), (3, some (false, -1, 15)), (4, some (false, -1, 15)), (5, some (false, -1, 15)), (6, some (false, -1, 15)), (7, none), (8, none)], [], [], [], (1, [(1, 0, 6)]))
def at_jt131 : at_J := ((70, 25, some 1), none, [(1, some (false, 0, 16))], [(18, false, 10, 10), (18, false, 12, 13), (19, false, 2, 2), (20, false, 0, 31), (21, false, 0, 10)], [], [], (16, [(-1, 0, 1)]))
def at_jt132 : at_J := ((70, 25, some 49), none, [(1, some (false, 0, 16))], [(66, false, 10, 10), (66, false, 12, 13), (67, false, 2, 2), (68, false, 0, 31), (69, false, 0, 10)], [], [], (16, [(-1, 0, 1)]))
def at_jt133 : at_J := ((71, 10, some 1), none, [(2, some (false, 0, 8)), (3, none), (4, none), (5, none)], [(4, false, 0, 29)], [], [], (8, [(-1, 0, 2)]))
def at_jt134 : at_J := ((71, 10, some 49), none, [(2, some (false, 0, 8)), (3, none), (4, none), (5, none)], [(52, false, 0, 29)], [], [], (8, [(-1, 0, 2)]))
def at_jt135 : at_J := ((74, 11, some 1), none, [(4, some (false, -2147483648, 2147483647)), (5, some (false, -2147483648, 2147483647)), (6, some (false, 0, 16))], [], [], [], (16, [(-1, 0, 6)]))
def at_jt136 : at_J := ((79, 5, some 3), none, [(2, some (false, -2147483648, 2147483647)), (3, some (false, 0, 7))], [], [], [], (7, [(-1, 0, 3)]))
def at_jt137 : at_J := ((79, 5, some 51), none, [(2, some (false, -2147483648, 2147483647)), (3, some (false, 0, 7))], [], [], [], (7, [(-1, 0, 3)]))
def at_jt138 : at_J := ((82, 4, some 3), none, [(1, some (false, -2147483648, 2147483647)), (2, some (false, 0, 24))], [], [], [], (24, [(-1, 0, 2)]))
def at_jt139 : at_J := ((91, 0, some 19), none, [(1, none)], [(19, false, 2, 2), (20, false, 1, 29), (21, false, 0, 10)], [(some 0, (2, []), 0, 32)], [], (0, [(1, 1, 0)]))
def at_jt140 : at_J := ((91, 0, some 67), none, [(1, none)], [(67, false, 2, 2), (68, false, 1, 29), (69, false, 0, 10)], [(some 0, (2, []), 0, 32)], [], (0, [(1, 1, 0)]))
def at_jt141 : at_J := ((99, 5, some 10), none, [(3, some (false, -2147483648, 2147483647)), (4, some (false, 0, 11)), (5, none)], [(10, false, 3, 3), (11, false, 0, 10), (13, false, 2, 3), (14, false, -69, 140)], [], [], (11, [(-1, 0, 4)]))
def at_jt142 : at_J := ((99, 5, some 58), none, [(3, some (false, -2147483648, 2147483647)), (4, some (false, 0, 11)), (5, none)], [(58, false, 3, 3), (59, false, 0, 10), (61, false, 2, 3), (62, false, -69, 140)], [], [], (11, [(-1, 0, 4)]))
def at_CM : List at_C := [at_qm0, at_qm1, at_qm2, at_qm3, at_qm4, at_qm5, at_qm6, at_qm7, at_qm8, at_qm9, at_qm10, at_qm11, at_qm12, at_qm13]
def at_CA : List at_C := [at_q0, at_q1, at_q2, at_q3, at_q4, at_q5, at_q6, at_q7, at_q8, at_q9, at_q10, at_q11, at_q12, at_q13, at_q14, at_q15, at_q16, at_q17, at_q18, at_q19, at_q20, at_q21, at_q22, at_q23, at_q24, at_q25, at_q26, at_q27, at_q28, at_q29, at_q30, at_q31, at_q32, at_q33, at_q34, at_q35, at_q36, at_q37, at_q38, at_q39, at_q40, at_q41, at_q42, at_q43, at_q44, at_q45, at_q46, at_q47, at_q48, at_q49, at_q50, at_q51, at_q52, at_q53, at_q54, at_q55, at_q56, at_q57, at_q58, at_q59, at_q60, at_q61, at_q62, at_q63, at_q64, at_q65, at_q66, at_q67, at_q68, at_q69, at_q70, at_q71, at_q72, at_q73, at_q74, at_q75, at_q76, at_q77, at_q78, at_q79, at_q80, at_q81, at_q82, at_q83, at_q84, at_q85, at_q86, at_q87, at_q88, at_q89, at_q90, at_q91, at_q92, at_q93, at_q94, at_q95, at_q96, at_q97, at_q98, at_q99, at_q100, at_q101, at_q102, at_q103, at_q104, at_q105, at_q106, at_q107, at_q108, at_q109, at_q110, at_q111, at_q112, at_q113, at_q114, at_q115, at_q116, at_q117, at_q118, at_q119, at_q120, at_q121, at_q122, at_q123, at_q124, at_q125, at_q126, at_q127, at_q128, at_q129, at_q130, at_q131, at_q132, at_q133, at_q134, at_q135, at_q136, at_q137, at_q138, at_q139, at_q140, at_q141, at_q142, at_q143, at_q144, at_q145, at_q146, at_q147, at_q148, at_q149, at_q150, at_q151, at_q152, at_q153, at_q154, at_q155, at_q156, at_q157, at_q158, at_q159, at_q160, at_q161, at_q162, at_q163, at_q164, at_q165, at_q166, at_q167, at_q168, at_q169, at_q170, at_q171, at_q172, at_q173, at_q174, at_q175, at_q176, at_q177, at_q178, at_q179, at_q180, at_q181, at_q182, at_q183, at_q184, at_q185, at_q186, at_q187, at_q188, at_q189, at_q190, at_q191, at_q192, at_q193, at_q194, at_q195, at_q196, at_q197, at_q198, at_q199, at_q200, at_q201, at_q202, at_q203, at_q204, at_q205, at_q206, at_q207, at_q208, at_q209, at_q210, at_q211, at_q212, at_q213, at_q214, at_q215, at_q216, at_q217, at_q218, at_q219, at_q220, at_q221, at_q222, at_q223, at_q224, at_q225, at_q226, at_q227, at_q228, at_q229, at_q230, at_q231, at_q232, at_q233, at_q234, at_q235, at_q236, at_q237, at_q238, at_q239, at_q240, at_q241, at_q242, at_q243, at_q244, at_q245, at_q246, at_q247, at_q248, at_q249, at_q250, at_q251, at_q252, at_q253, at_q254, at_q255, at_q256, at_q257, at_q258, at_q259, at_q260, at_q261, at_q262, at_q263]
def at_JT : List at_J := [at_jt0, at_jt1, at_jt2, at_jt3, at_jt4, at_jt5, at_jt6, at_jt7, at_jt8, at_jt9, at_jt10, at_jt11, at_jt12, at_jt13, at_jt14, at_jt15, at_jt16, at_jt17, at_jt18, at_jt19, at_jt20, at_jt21, at_jt22, at_jt23, at_jt24, at_jt25, at_jt26, at_jt27, at_jt28, at_jt29, at_jt30, at_jt31, at_jt32, at_jt33, at_jt34, at_jt35, at_jt36, at_jt37, at_jt38, at_jt39, at_jt40, at_jt41, at_jt42, at_jt43, at_jt44, at_jt45, at_jt46, at_jt47, at_jt48, at_jt49, at_jt50, at_jt51, at_jt52, at_jt53, at_jt54, at_jt55, at_jt56, at_jt57, at_jt58, at_jt59, at_jt60, at_jt61, at_jt62, at_jt63, at_jt64, at_jt65, at_jt66, at_jt67, at_jt68, at_jt69, at_jt70, at_jt71, at_jt72, at_jt73, at_jt74, at_jt75, at_jt76, at_jt77, at_jt78, at_jt79, at_jt80, at_jt81, at_jt82, at_jt83, at_jt84, at_jt85, at_jt86, at_jt87, at_jt88, at_jt89, at_jt90, at_jt91, at_jt92, at_jt93, at_jt94, at_jt95, at_jt96, at_jt97, at_jt98, at_jt99, at_jt100, at_jt101, at_jt102, at_jt103, at_jt104, at_jt105, at_jt106, at_jt107, at_jt108, at_jt109, at_jt110, at_jt111, at_jt112, at_jt113, at_jt114, at_jt115, at_jt116, at_jt117, at_jt118, at_jt119, at_jt120, at_jt121, at_jt122, at_jt123, at_jt124, at_jt125, at_jt126, at_jt127, at_jt128, at_jt129, at_jt130, at_jt131, at_jt132, at_jt133, at_jt134, at_jt135, at_jt136, at_jt137, at_jt138, at_jt139, at_jt140, at_jt141, at_jt142]

end

/-! 72.loop.lean.txt -/
section
/-! ===== loops: their shape over numbers ===== -/
/-- a template over the machine's own values -/
def at_smt (m : fl_M) (fl : fl_L) (zs : List Int) (t : Int × Nat × Nat) : Int := match t.2.1 with
  | 0 => (match fl[t.2.2]? with
    | some (some (.inl x)) => t.1 * x.toInt
    | some (some (.inr (.inl x))) => t.1 * x.toInt
    | _ => 0)
  | 1 => t.1 * zs.getD t.2.2 0
  | _ => t.1 * at_w m 2
def at_sml (m : fl_M) (fl : fl_L) (zs : List Int) : List (Int × Nat × Nat) → Int
  | [] => 0
  | t :: r => at_smt m fl zs t + at_sml m fl zs r
def at_sm (m : fl_M) (fl : fl_L) (zs : List Int) (t : at_T) : Int := at_sml m fl zs t.2 + t.1
/-- names that stand for numbers -/
def at_vz (ν : Nat → Int) (n : Nat) : List at_A → List Int → Prop
  | [], [] => True
  | a :: r, z :: s => at_wf n a ∧ at_ev ν a = z ∧ at_vz ν n r s
  | _, _ => False
theorem at_vz.get {ν : Nat → Int} {n : Nat} {as_ : List at_A} {zs : List Int} (h : at_vz ν n as_ zs) {k : Nat} {a : at_A} (e : as_[k]? = some a) : at_wf n a ∧ at_ev ν a = zs.getD k 0 := by
  induction as_ generalizing zs k with
  | nil => simp at e
  | cons b r ih =>
    cases zs with
    | nil => cases h
    | cons z s =>
      obtain ⟨h1, h2, h3⟩ := h
      cases k with
      | zero => cases e; exact ⟨h1, h2⟩
      | succ k => exact ih h3 e
theorem at_vz.ag {ν ν' : Nat → Int} {n k : Nat} {as_ : List at_A} {zs : List Int} (h : at_vz ν n as_ zs) (hag : at_ag n ν ν') (hk : n ≤ k) : at_vz ν' k as_ zs := by
  induction as_ generalizing zs with
  | nil => cases zs with
    | nil => exact True.intro
    | cons z s => cases h
  | cons b r ih =>
    cases zs with
    | nil => cases h
    | cons z s =>
      obtain ⟨h1, h2, h3⟩ := h
      exact ⟨h1.mono hk, by rw [at_ev_ag hag h1]; exact h2, ih h3⟩
section ATLP
variable {m : fl_M} {ν ν' : Nat → Int} {n h : Nat} {lv : at_L} {fl : fl_L} {bv : List at_A} {zs : List Int} {nn : Option at_A}
theorem at_tmt_ok (hl : at_LR ν h lv fl) (hw : ∀ a, some a ∈ lv → at_wV n a) (hb : at_vz ν n bv zs) (hn : ∀ a, nn = some a → at_wf n a ∧ at_ev ν a = at_w m 2) {t : Int × Nat × Nat} {a : at_A} (e : at_tmt lv bv nn t = some a) : at_wf n a ∧ at_ev ν a = at_smt m fl zs t := by
  obtain ⟨k, tg, i⟩ := t
  match tg, e with
  | 0, e =>
    replace e : (match lv[i]? with
      | some (some (.inl a)) => some (at_mul k a)
      | some (some (.inr (.inl a))) => some (at_mul k a)
      | _ => none) = some a := e
    show _ ∧ _ = (match fl[i]? with
      | some (some (.inl x)) => k * x.toInt
      | some (some (.inr (.inl x))) => k * x.toInt
      | _ => 0)
    split at e
    · rename_i b eb
      cases e
      obtain ⟨v, e1, x, rfl, ex⟩ := hl.2 i _ eb
      rw [e1]
      refine ⟨at_wf_mul (hw _ (List.mem_of_getElem? eb)), ?_⟩
      rw [at_ev_mul, ← ex]
    · rename_i b eb
      cases e
      obtain ⟨v, e1, x, rfl, ex⟩ := hl.2 i _ eb
      rw [e1]
      refine ⟨at_wf_mul (hw _ (List.mem_of_getElem? eb)), ?_⟩
      rw [at_ev_mul, ← ex]
    · cases e
  | 1, e =>
    replace e : (match bv[i]? with
      | some a => some (at_mul k a)
      | none => none) = some a := e
    show _ ∧ _ = k * zs.getD i 0
    split at e
    · rename_i b eb
      cases e
      obtain ⟨q1, q2⟩ := hb.get eb
      exact ⟨at_wf_mul q1, by rw [at_ev_mul, q2]⟩
    · cases e
  | tg + 2, e =>
    show _ ∧ _ = k * at_w m 2
    cases nn with
    | none =>
      have e : (none : Option at_A) = some a := e
      cases e
    | some b =>
      have e : some (at_mul k b) = some a := e
      cases e
      obtain ⟨q1, q2⟩ := hn b rfl
      exact ⟨at_wf_mul q1, by rw [at_ev_mul, q2]⟩
theorem at_tml_ok (hl : at_LR ν h lv fl) (hw : ∀ a, some a ∈ lv → at_wV n a) (hb : at_vz ν n bv zs) (hn : ∀ a, nn = some a → at_wf n a ∧ at_ev ν a = at_w m 2) {l : List (Int × Nat × Nat)} {a : at_A} (e : at_tml lv bv nn l = some a) : at_wf n a ∧ at_ev ν a = at_sml m fl zs l := by
  induction l generalizing a with
  | nil => cases e; exact ⟨at_wf_c, at_ev_c _ _⟩
  | cons t r ih =>
    unfold at_tml at e
    split at e
    · rename_i b c eb ec
      cases e
      obtain ⟨b1, b2⟩ := at_tmt_ok hl hw hb hn eb
      obtain ⟨c1, c2⟩ := ih ec
      exact ⟨at_wf_add b1 c1, by rw [at_ev_add, b2, c2]; rfl⟩
    · cases e
theorem at_tm_ok (hl : at_LR ν h lv fl) (hw : ∀ a, some a ∈ lv → at_wV n a) (hb : at_vz ν n bv zs) (hn : ∀ a, nn = some a → at_wf n a ∧ at_ev ν a = at_w m 2) {t : at_T} {a : at_A} (e : at_tm lv bv nn t = some a) : at_wf n a ∧ at_ev ν a = at_sm m fl zs t := by
  unfold at_tm at e
  split at e
  · rename_i b eb
    cases e
    obtain ⟨b1, b2⟩ := at_tml_ok hl hw hb hn eb
    exact ⟨at_wf_add b1 at_wf_c, by rw [at_ev_add, at_ev_c, b2]; rfl⟩
  · cases e
/-- the locals that change have values in their ranges -/
def at_hz (fl : fl_L) (q : Nat × Option (Bool × Int × Int)) : Prop := match q.2 with
  | none => True
  | some (false, lo, hi) => ∃ x : Int32, fl[q.1]? = some (some (.inl x)) ∧ lo ≤ x.toInt ∧ x.toInt ≤ hi
  | some (true, lo, hi) => ∃ x : Int64, fl[q.1]? = some (some (.inr (.inl x))) ∧ lo ≤ x.toInt ∧ x.toInt ≤ hi
theorem at_set_LR {a : at_V} {v : fl_V} {i : Nat} (hl : at_LR ν h lv fl) (e : fl[i]? = some (some v)) (hv : at_RV ν h a v) : at_LR ν h (lv.set i (some a)) fl := by
  refine ⟨by rw [List.length_set]; exact hl.1, fun j b eb => ?_⟩
  rcases at_set_get eb with ⟨rfl, h2, -⟩ | ⟨-, h2⟩
  · cases h2
    exact ⟨v, e, hv⟩
  · exact hl.2 j b h2
theorem at_set_none {i : Nat} (hl : at_LR ν h lv fl) : at_LR ν h (lv.set i none) fl := by
  refine ⟨by rw [List.length_set]; exact hl.1, fun j b eb => ?_⟩
  rcases at_set_get eb with ⟨-, h2, -⟩ | ⟨-, h2⟩
  · cases h2
  · exact hl.2 j b h2
theorem at_set_mem {i : Nat} {o : Option at_V} {b : at_V} (hb : some b ∈ lv.set i o) : o = some b ∨ some b ∈ lv := by
  obtain ⟨j, e⟩ := List.getElem?_of_mem hb
  rcases at_set_get e with ⟨-, h2, -⟩ | ⟨-, h2⟩
  · exact Or.inl h2
  · exact Or.inr (List.mem_of_getElem? h2)
theorem at_hv_ok : ∀ (hav : List (Nat × Option (Bool × Int × Int))) (P : at_P) (lv : at_L) (ν : Nat → Int), at_KP ν P → at_LR ν h lv fl → (∀ a, some a ∈ lv → at_wV P.1.length a) → (∀ q ∈ hav, at_hz fl q) → ∃ ν', at_X ν P ν' (at_hv hav P lv).1 ∧ at_LR ν' h (at_hv hav P lv).2 fl ∧ ∀ a, some a ∈ (at_hv hav P lv).2 → at_wV (at_hv hav P lv).1.1.length a := by
  intro hav
  induction hav with
  | nil => intro P lv ν hP hl hw _; exact ⟨ν, at_X.rfl hP, hl, hw⟩
  | cons q r ih =>
    intro P lv ν hP hl hw hz
    obtain ⟨i, o⟩ := q
    have hq := hz (i, o) List.mem_cons_self
    have hr := fun q hq => hz q (List.mem_cons_of_mem _ hq)
    cases o with
    | none => exact ih P lv ν hP hl hw hr
    | some s =>
      obtain ⟨b, lo, hi⟩ := s
      have key : ∀ (v : fl_V) (z : Int), fl[i]? = some (some v) → lo ≤ z → z ≤ hi → (∀ ν', at_ev ν' (at_nv P) = z → at_RV ν' h (bif b then .inr (.inl (at_nv P)) else .inl (at_nv P)) v) → ∃ ν', at_X ν P ν' (at_hv ((i, some (b, lo, hi)) :: r) P lv).1 ∧ at_LR ν' h (at_hv ((i, some (b, lo, hi)) :: r) P lv).2 fl ∧ ∀ a, some a ∈ (at_hv ((i, some (b, lo, hi)) :: r) P lv).2 → at_wV (at_hv ((i, some (b, lo, hi)) :: r) P lv).1.1.length a := by
        intro v z e h1 h2 hv
        obtain ⟨ν1, hx, hw1, he1⟩ := at_new_X hP h1 h2
        have hl1 : at_LR ν1 h (lv.set i (some (bif b then .inr (.inl (at_nv P)) else .inl (at_nv P)))) fl := at_set_LR (hl.ag hw hx.1 (Nat.le_refl _)) e (hv ν1 he1)
        obtain ⟨ν2, hx2, hl2, hw2⟩ := ih (at_new P lo hi) _ ν1 hx.2.2 hl1 (fun a ha => by
          rcases at_set_mem ha with h | h
          · cases h
            cases b <;> exact hw1
          · exact (hw a h).mono hx.2.1) hr
        exact ⟨ν2, hx.trans hx2, hl2, hw2⟩
      cases b with
      | false =>
        obtain ⟨x, e, h1, h2⟩ := hq
        exact key _ x.toInt e h1 h2 (fun ν' he => ⟨x, rfl, he.symm⟩)
      | true =>
        obtain ⟨x, e, h1, h2⟩ := hq
        exact key _ x.toInt e h1 h2 (fun ν' he => ⟨x, rfl, he.symm⟩)
/-- the named words have values in their ranges -/
def at_bz : List (Option Nat × at_T × Int × Int) → List Int → Prop
  | [], [] => True
  | b :: r, z :: s => (b.2.2.1 ≤ z ∧ z ≤ b.2.2.2) ∧ at_bz r s
  | _, _ => False
theorem at_bh_ok : ∀ (bnd : List (Option Nat × at_T × Int × Int)) (zs : List Int) (P : at_P) (ν : Nat → Int), at_KP ν P → at_bz bnd zs → ∃ ν', at_X ν P ν' (at_bh bnd P).1 ∧ at_vz ν' (at_bh bnd P).1.1.length (at_bh bnd P).2 zs := by
  intro bnd
  induction bnd with
  | nil =>
    intro zs P ν hP hz
    cases zs with
    | nil => exact ⟨ν, at_X.rfl hP, True.intro⟩
    | cons z s => cases hz
  | cons b r ih =>
    intro zs P ν hP hz
    cases zs with
    | nil => cases hz
    | cons z s =>
      obtain ⟨⟨h1, h2⟩, h3⟩ := hz
      obtain ⟨ν1, hx, hw1, he1⟩ := at_new_X hP h1 h2
      obtain ⟨ν2, hx2, hv2⟩ := ih s (at_new P b.2.2.1 b.2.2.2) ν1 hx.2.2 h3
      exact ⟨ν2, hx.trans hx2, hw1.mono hx2.2.1, by rw [at_ev_ag hx2.1 hw1]; exact he1, hv2⟩
theorem at_cons_ok : ∀ (ts : List at_T) (P P' : at_P), at_KP ν P → (∀ t ∈ ts, at_sm m fl zs t ≤ 0) → at_LR ν h lv fl → (∀ a, some a ∈ lv → at_wV P.1.length a) → at_vz ν P.1.length bv zs → (∀ a, nn = some a → at_wf P.1.length a ∧ at_ev ν a = at_w m 2) → at_cons lv bv nn ts P = some P' → at_X ν P ν P' ∧ P'.1.length = P.1.length := by
  intro ts
  induction ts with
  | nil => intro P P' hP _ _ _ _ _ e; cases e; exact ⟨at_X.rfl hP, rfl⟩
  | cons t r ih =>
    intro P P' hP ht hl hw hb hn e
    unfold at_cons at e
    split at e
    · rename_i a ea
      obtain ⟨q1, q2⟩ := at_tm_ok hl hw hb hn ea
      obtain ⟨P1, e1, x1, l1⟩ := at_as_X hP q1 (by rw [q2]; exact ht t List.mem_cons_self)
      rw [e1] at e
      obtain ⟨x2, l2⟩ := ih P1 P' x1.2.2 (fun t' ht' => ht t' (List.mem_cons_of_mem _ ht')) hl (by rw [l1]; exact hw) (by rw [l1]; exact hb) (by rw [l1]; exact hn) e
      exact ⟨x1.trans x2, by rw [l2, l1]⟩
    · cases e
end ATLP

end

/-! 73.fit.lean.txt -/
section
/-! ===== a state that has a loop's shape ===== -/
theorem at_ffl_ok {ν : Nat → Int} {m : fl_M} {n t p i : Nat} {pl idx v : at_A} (ep : at_ev ν pl = p) (ei : at_ev ν idx = i) : ∀ fs : List at_F, (∀ f ∈ fs, at_FT ν m f ∧ at_FW n f) → at_ff fs t pl idx = some v → at_ev ν v = (m.1 p i).toInt ∧ at_wf n v := by
  intro fs
  induction fs with
  | nil => intro _ e; cases e
  | cons f r ih =>
    intro hf e
    unfold at_ff at e
    cases hb : Nat.beq f.1 t && (at_eq f.2.1 pl && at_eq f.2.2.1 idx) with
    | false => rw [hb] at e; exact ih (fun g hg => hf g (List.mem_cons_of_mem _ hg)) e
    | true =>
      rw [hb] at e
      cases e
      simp only [Bool.and_eq_true] at hb
      obtain ⟨-, b2, b3⟩ := hb
      obtain ⟨⟨p', i', e1, e2, e3, e4⟩, w1, w2, w3⟩ := hf f List.mem_cons_self
      rw [at_eq_ok b2, ep] at e1
      rw [at_eq_ok b3, ei] at e2
      have e1 : p = p' := by omega
      have e2 : i = i' := by omega
      subst e1 e2
      exact ⟨e4.symm, w3⟩
/-- the named words hold these numbers -/
def at_lz (ν : Nat → Int) (n : Nat) (m : fl_M) : List (Nat × at_A × at_A) → List Int → Prop
  | [], [] => True
  | q :: r, z :: s => (∃ p i : Nat, at_wf n q.2.1 ∧ at_wf n q.2.2 ∧ at_ev ν q.2.1 = p ∧ at_ev ν q.2.2 = i ∧ fk_K p = q.1 ∧ (m.1 p i).toInt = z) ∧ at_lz ν n m r s
  | _, _ => False
/-- how a loop's start is laid over its base -/
def at_AO (P2 : at_P) (wr2 : List at_W) (brk2 : List (Nat × at_A)) (A : at_Ac) : Prop :=
  ∃ P3, at_cons (at_hv A.2.1.2.2.1 P2 A.2.2.1).2 (at_bh A.2.1.2.2.2.2.1 (at_hv A.2.1.2.2.1 P2 A.2.2.1).1).2 (at_nF A.2.2.2.1) A.2.1.2.2.2.2.2.1 (at_bh A.2.1.2.2.2.2.1 (at_hv A.2.1.2.2.1 P2 A.2.2.1).1).1 = some P3 ∧
    at_tm (at_hv A.2.1.2.2.1 P2 A.2.2.1).2 (at_bh A.2.1.2.2.2.2.1 (at_hv A.2.1.2.2.1 P2 A.2.2.1).1).2 (at_nF A.2.2.2.1) A.2.1.2.2.2.2.2.2 = some A.2.2.2.2.2.2.2 ∧
    A.2.2.2.2.1 = (P3, (A.2.2.2.2.2.2.1.zip (at_bh A.2.1.2.2.2.2.1 (at_hv A.2.1.2.2.1 P2 A.2.2.1).1).2).map (fun q => (q.1.1, q.1.2.1, q.1.2.2, q.2)) ++ A.2.2.2.1, A.2.1.2.2.2.1 ++ wr2, brk2) ∧
    A.2.2.2.2.2.1 = (at_hv A.2.1.2.2.1 P2 A.2.2.1).2
def at_Ft (X : fl_M → Prop) (m0 : fl_M) (h0 : Nat) (P2 : at_P) (wr2 : List at_W) (brk2 : List (Nat × at_A)) (A : at_Ac) (ν : Nat → Int) (m : fl_M) (fl : fl_L) (zs : List Int) : Prop :=
  h0 ≤ m.2.2 ∧ at_KP ν P2 ∧ at_LR ν m.2.2 A.2.2.1 fl ∧ (∀ a, some a ∈ A.2.2.1 → at_wV P2.1.length a) ∧ (∀ f ∈ A.2.2.2.1, at_FT ν m f ∧ at_FW P2.1.length f) ∧ (∀ b ∈ brk2, at_wf P2.1.length b.2) ∧ at_RG m ∧ at_RL ν brk2 m ∧ X m ∧ at_MD m0 m (A.2.1.2.2.2.1 ++ wr2) ∧ (∀ q ∈ A.2.1.2.2.1, at_hz fl q) ∧ at_bz A.2.1.2.2.2.2.1 zs ∧ at_lz ν P2.1.length m A.2.2.2.2.2.2.1 zs ∧ ∀ t ∈ A.2.1.2.2.2.2.2.1, at_sm m fl zs t ≤ 0
theorem at_lz_facts {ν ν' : Nat → Int} {n k : Nat} {m : fl_M} (hag : at_ag n ν ν') (hk : n ≤ k) : ∀ (locs : List (Nat × at_A × at_A)) (zs : List Int) (bv : List at_A), at_lz ν n m locs zs → at_vz ν' k bv zs → ∀ f ∈ (locs.zip bv).map (fun q => ((q.1.1, q.1.2.1, q.1.2.2, q.2) : at_F)), at_FT ν' m f ∧ at_FW k f := by
  intro locs
  induction locs with
  | nil => intro zs bv _ _ f hf; simp at hf
  | cons q r ih =>
    intro zs bv hl hb f hf
    cases zs with
    | nil => cases hl
    | cons z s =>
      cases bv with
      | nil => cases hb
      | cons b bs =>
        obtain ⟨⟨p, i, w1, w2, e1, e2, e3, e4⟩, h2⟩ := hl
        obtain ⟨b1, b2, b3⟩ := hb
        rw [List.zip_cons_cons, List.map_cons] at hf
        rcases List.mem_cons.mp hf with rfl | hf
        · exact ⟨⟨p, i, by rw [at_ev_ag hag w1]; exact e1, by rw [at_ev_ag hag w2]; exact e2, e3, by rw [e4, b2]⟩, w1.mono hk, w2.mono hk, b1⟩
        · exact ih s bs h2 b3 f hf
theorem at_fit_ok {X : fl_M → Prop} {m0 : fl_M} {h0 : Nat} {P2 : at_P} {wr2 : List at_W} {brk2 : List (Nat × at_A)} {A : at_Ac} {ν : Nat → Int} {m : fl_M} {fl : fl_L} {zs : List Int} (hA : at_AO P2 wr2 brk2 A) (h : at_Ft X m0 h0 P2 wr2 brk2 A ν m fl zs) : ∃ ν', at_ag P2.1.length ν ν' ∧ P2.1.length ≤ A.2.2.2.2.1.1.1.length ∧ at_G X m0 m ν' A.2.2.2.2.1 A.2.2.2.2.2.1 [] fl [] ∧ at_wf A.2.2.2.2.1.1.1.length A.2.2.2.2.2.2.2 ∧ at_ev ν' A.2.2.2.2.2.2.2 = at_sm m fl zs A.2.1.2.2.2.2.2.2 := by
  obtain ⟨k0, k1, k2, k3, k4, k5, k6, k7, k8, k9, k10, k11, k12, k13⟩ := h
  obtain ⟨P3, a1, a2, a3, a4⟩ := hA
  obtain ⟨ν3, x3, l3, w3⟩ := at_hv_ok A.2.1.2.2.1 P2 A.2.2.1 ν k1 k2 k3 k10
  obtain ⟨ν4, x4, v4⟩ := at_bh_ok A.2.1.2.2.2.2.1 zs _ ν3 x3.2.2 k11
  have x34 := x3.trans x4
  have hn : ∀ a, at_nF A.2.2.2.1 = some a → at_wf (at_bh A.2.1.2.2.2.2.1 (at_hv A.2.1.2.2.1 P2 A.2.2.1).1).1.1.length a ∧ at_ev ν4 a = at_w m 2 := by
    intro a ea
    obtain ⟨q1, q2⟩ := at_ffl_ok (p := 280) (i := 2) (n := P2.1.length) (m := m) (ν := ν) (at_ev_c _ _) (at_ev_c _ _) A.2.2.2.1 k4 ea
    exact ⟨q2.mono x34.2.1, by rw [at_ev_ag x34.1 q2]; exact q1⟩
  have l4 := l3.ag w3 x4.1 (Nat.le_refl m.2.2)
  have w4 : ∀ a, some a ∈ (at_hv A.2.1.2.2.1 P2 A.2.2.1).2 → at_wV (at_bh A.2.1.2.2.2.2.1 (at_hv A.2.1.2.2.1 P2 A.2.2.1).1).1.1.length a := fun a ha => (w3 a ha).mono x4.2.1
  obtain ⟨x5, e5⟩ := at_cons_ok A.2.1.2.2.2.2.2.1 _ P3 x4.2.2 k13 l4 w4 v4 hn a1
  obtain ⟨t1, t2⟩ := at_tm_ok l4 w4 v4 hn a2
  have hlen : A.2.2.2.2.1.1.1.length = (at_bh A.2.1.2.2.2.2.1 (at_hv A.2.1.2.2.1 P2 A.2.2.1).1).1.1.length := by rw [a3]; exact e5
  refine ⟨ν4, x34.1, by rw [hlen]; exact x34.2.1, ?_, by rw [hlen]; exact t1, t2⟩
  rw [a4]
  unfold at_G
  rw [hlen]
  refine ⟨?_, l4, w4, True.intro, fun a ha => by cases ha⟩
  rw [a3]
  refine ⟨x5.2.2, ?_, ?_, k6, k7.ag x34.1 k5, k8, k9⟩
  · dsimp only
    rw [e5]
    intro f hf
    rcases List.mem_append.mp hf with hf | hf
    · exact at_lz_facts x34.1 x34.2.1 _ zs _ k12 v4 f hf
    · obtain ⟨⟨p, i, e1, e2, e3, e4⟩, q1, q2, q3⟩ := k4 f hf
      exact ⟨⟨p, i, by rw [at_ev_ag x34.1 q1]; exact e1, by rw [at_ev_ag x34.1 q2]; exact e2, e3, by rw [at_ev_ag x34.1 q3]; exact e4⟩, q1.mono x34.2.1, q2.mono x34.2.1, q3.mono x34.2.1⟩
  · dsimp only
    rw [e5]
    exact fun b hb => (k5 b hb).mono x34.2.1
/-! into a loop -/
theorem at_hc1_ok {ν : Nat → Int} {P : at_P} {h : Nat} {lv : at_L} {fl : fl_L} (hP : at_GP ν P) (hl : at_LR ν h lv fl) {q : Nat × Option (Bool × Int × Int)} (e : at_hc1 P lv q = true) : at_hz fl q := by
  obtain ⟨i, o⟩ := q
  unfold at_hc1 at e
  unfold at_hz
  cases o with
  | none => exact True.intro
  | some s =>
    obtain ⟨b, lo, hi⟩ := s
    dsimp only at e
    split at e
    · rename_i a ea
      obtain ⟨v, e1, x, rfl, ex⟩ := hl.2 i _ ea
      simp only [Bool.and_eq_true, Bool.not_eq_true'] at e
      obtain ⟨rfl, e⟩ := e
      obtain ⟨k1, k2⟩ := at_inR_ok hP e
      exact ⟨x, e1, by omega, by omega⟩
    · rename_i a ea
      obtain ⟨v, e1, x, rfl, ex⟩ := hl.2 i _ ea
      simp only [Bool.and_eq_true] at e
      obtain ⟨rfl, e⟩ := e
      obtain ⟨k1, k2⟩ := at_inR_ok hP e
      exact ⟨x, e1, by omega, by omega⟩
    · cases e
theorem at_er_ok {ν : Nat → Int} {h n : Nat} {fl : fl_L} : ∀ (hav : List (Nat × Option (Bool × Int × Int))) (lv : at_L), at_LR ν h lv fl → (∀ a, some a ∈ lv → at_wV n a) → at_LR ν h (at_er hav lv) fl ∧ ∀ a, some a ∈ at_er hav lv → at_wV n a := by
  intro hav
  induction hav with
  | nil => intro lv hl hw; exact ⟨hl, hw⟩
  | cons q r ih =>
    intro lv hl hw
    exact ih (lv.set q.1 none) (at_set_none hl) (fun a ha => by
      rcases at_set_mem ha with h | h
      · cases h
      · exact hw a h)
theorem at_ckc_ok {ν : Nat → Int} {P : at_P} {h : Nat} {m : fl_M} {lv : at_L} {fl : fl_L} {bv : List at_A} {zs : List Int} {nn : Option at_A} (hP : at_KP ν P) (hl : at_LR ν h lv fl) (hw : ∀ a, some a ∈ lv → at_wV P.1.length a) (hb : at_vz ν P.1.length bv zs) (hn : ∀ a, nn = some a → at_wf P.1.length a ∧ at_ev ν a = at_w m 2) {ts : List at_T} (e : at_ckc P lv bv nn ts = true) : ∀ t ∈ ts, at_sm m fl zs t ≤ 0 := by
  intro t ht
  have := List.all_eq_true.mp e t ht
  split at this
  · rename_i a ea
    obtain ⟨q1, q2⟩ := at_tm_ok hl hw hb hn ea
    rw [← q2]
    exact at_le_ok hP.1 this
  · cases this

end

/-! 74.enter.lean.txt -/
section
/-! ===== into a loop, back at its head ===== -/
section ATEN
variable {X : fl_M → Prop} {m0 m : fl_M} {ν ν' : Nat → Int} {S : at_S} {lv : at_L} {fl : fl_L}
theorem at_bl_ok : ∀ (bnd : List (Option Nat × at_T × Int × Int)) (S : at_S) (ν : Nat → Int) (S2 : at_S) (locs : List (Nat × at_A × at_A)) (vals : List at_A), at_GS X m0 m ν S → at_LR ν m.2.2 lv fl → (∀ a, some a ∈ lv → at_wV S.1.1.length a) → at_bl S lv bnd = some (S2, locs, vals) → ∃ ν' zs, at_ag S.1.1.length ν ν' ∧ S.1.1.length ≤ S2.1.1.length ∧ at_GS X m0 m ν' S2 ∧ S2.2.2 = S.2.2 ∧ at_bz bnd zs ∧ at_lz ν' S2.1.1.length m locs zs ∧ at_vz ν' S2.1.1.length vals zs := by
  intro bnd
  induction bnd with
  | nil =>
    intro S ν S2 locs vals h hl hw e
    cases e
    exact ⟨ν, [], at_ag.rfl, Nat.le_refl _, h, rfl, True.intro, True.intro, True.intro⟩
  | cons b r ih =>
    intro S ν S2 locs vals h hl hw e
    unfold at_bl at e
    split at e
    · rename_i ix q eix eq
      obtain ⟨hb, e⟩ := am_bif e
      obtain ⟨wi, vi⟩ := at_tm_ok (m := m) (zs := []) hl hw (show at_vz ν _ [] [] from True.intro) (fun a ha => by cases ha) eix
      have hi := at_nn_ok h.1.1 hb
      obtain ⟨i, ei⟩ : ∃ i : Nat, at_ev ν ix = i := ⟨(at_ev ν ix).toNat, by omega⟩
      have hq : ∃ p : Nat, at_wf S.1.1.length q.2 ∧ at_ev ν q.2 = p ∧ fk_K p = q.1 ∧ p < fl_N m.2.2 := by
        split at eq
        · cases eq
          exact ⟨280, at_wf_c, at_ev_c _ _, at_K280, at_280 _⟩
        · split at eq
          · rename_i q' eq'
            cases eq
            obtain ⟨v, e1, p, -, e2, e3, e4⟩ := hl.2 _ _ eq'
            exact ⟨p, hw _ (List.mem_of_getElem? eq'), e2, e3, e4⟩
          · cases eq
      obtain ⟨p, wq, ep, hk, hp⟩ := hq
      obtain ⟨ν1, ag1, le1, g1, w1, e1, same1⟩ := at_ld_ok h wq wi ep ei hk hp
      dsimp only at e
      obtain ⟨hr, e⟩ := am_bif e
      obtain ⟨r1, r2⟩ := at_inR_ok g1.1.1 hr
      split at e
      · rename_i z ez
        cases e
        obtain ⟨z1, z2, z3⟩ := z
        obtain ⟨ν2, zs, ag2, le2, g2, same2, bz2, lz2, vz2⟩ := ih _ ν1 z1 z2 z3 g1 (hl.ag hw ag1 (Nat.le_refl _)) (fun a ha => (hw a ha).mono le1) ez
        refine ⟨ν2, (m.1 p i).toInt :: zs, ag1.trans ag2 le1, Nat.le_trans le1 le2, g2, same2.trans same1, ⟨⟨by omega, by omega⟩, bz2⟩, ⟨⟨p, i, (wq.mono le1).mono le2, (wi.mono le1).mono le2, ?_, ?_, hk, rfl⟩, lz2⟩, ⟨w1.mono le2, ?_, vz2⟩⟩
        · dsimp only; rw [at_ev_ag ag2 (wq.mono le1), at_ev_ag ag1 wq]; exact ep
        · dsimp only; rw [at_ev_ag ag2 (wi.mono le1), at_ev_ag ag1 wi]; exact ei
        · rw [at_ev_ag ag2 w1]; exact e1
      · cases e
    · cases e
theorem at_enter_ok {j : at_J} {SJ : at_S} {lvJ : at_L} {A : at_Ac} (h : at_G X m0 m ν S lv [] fl []) (e : at_enter S lv j = some (SJ, lvJ, A)) : ∃ P2 wr2 brk2 ν2 zs, at_ag S.1.1.length ν ν2 ∧ S.1.1.length ≤ P2.1.length ∧ at_AO P2 wr2 brk2 A ∧ at_Ft X m0 m.2.2 P2 wr2 brk2 A ν2 m fl zs ∧ A.1 = j.1.2.1 ∧ SJ = A.2.2.2.2.1 ∧ lvJ = A.2.2.2.2.2.1 := by
  obtain ⟨ν1, ag1, le1, g1, w1, e1, same1⟩ := at_cs_ok h.1
  unfold at_enter at e
  have hl1 := h.2.1.ag h.2.2.1 ag1 (Nat.le_refl m.2.2)
  have hw1 : ∀ a, some a ∈ lv → at_wV (at_cs S).1.1.1.length a := fun a ha => (h.2.2.1 a ha).mono le1
  split at e
  · cases e
  · rename_i S2 locs vals ebl
    obtain ⟨ν2, zs, ag2, le2, g2, same2, bz2, lz2, vz2⟩ := at_bl_ok _ _ ν1 S2 locs vals g1 hl1 hw1 ebl
    obtain ⟨hb, e⟩ := am_bif e
    simp only [Bool.and_eq_true] at hb
    obtain ⟨hb1, hb2⟩ := hb
    have hl2 := hl1.ag hw1 ag2 (Nat.le_refl m.2.2)
    have hw2 : ∀ a, some a ∈ lv → at_wV S2.1.1.length a := fun a ha => (hw1 a ha).mono le2
    have hn : ∀ a, at_nF S2.2.1 = some a → at_wf S2.1.1.length a ∧ at_ev ν2 a = at_w m 2 := by
      intro a ea
      obtain ⟨q1, q2⟩ := at_ffl_ok (p := 280) (i := 2) (n := S2.1.1.length) (m := m) (ν := ν2) (at_ev_c _ _) (at_ev_c _ _) S2.2.1 g2.2.1 ea
      exact ⟨q2, q1⟩
    have hc := at_ckc_ok g2.1 hl2 hw2 vz2 hn hb2
    dsimp only at e
    split at e
    · rename_i P3 me e3 e4
      cases e
      obtain ⟨er1, er2⟩ := at_er_ok j.2.2.1 lv hl2 hw2
      refine ⟨S2.1, S2.2.2.1, S2.2.2.2, ν2, zs, ag1.trans ag2 le1, Nat.le_trans le1 le2, ⟨P3, e3, e4, rfl, rfl⟩, ?_, rfl, rfl, rfl⟩
      refine ⟨Nat.le_refl _, g2.1, er1, er2, fun f hf => g2.2.1 f (List.mem_filter.mp hf).1, g2.2.2.1, g2.2.2.2.1, g2.2.2.2.2.1, g2.2.2.2.2.2.1, ?_, fun q hq => at_hc1_ok g2.1.1 hl2 (List.all_eq_true.mp hb1 q hq), bz2, lz2, hc⟩
      refine ⟨g2.2.2.2.2.2.2.1, fun p i hne => ?_⟩
      obtain ⟨w, hw, hcv⟩ := g2.2.2.2.2.2.2.2 p i hne
      exact ⟨w, List.mem_append_right _ hw, hcv⟩
    · cases e
theorem at_cvW_ok {w w' : at_W} {t : Nat} {i : Int} (e : at_cvW w w' = true) (h : at_cv w t i) : at_cv w' t i := by
  obtain ⟨a1, a2, a3, a4⟩ := w
  obtain ⟨b1, b2, b3, b4⟩ := w'
  unfold at_cvW at e
  unfold at_cv at h ⊢
  simp only [Bool.and_eq_true] at e
  obtain ⟨e1, e2⟩ := e
  have e1 := Nat.eq_of_beq_eq_true e1
  dsimp only at e1 e2 h ⊢
  subst e1
  refine ⟨h.1, ?_⟩
  have h := h.2
  cases b2 with
  | true =>
    simp only [cond_true, Bool.and_eq_true, decide_eq_true_eq] at e2
    obtain ⟨rfl, e3, e4⟩ := e2
    rw [if_pos rfl] at h ⊢
    obtain ⟨o, o1, o2, o3, o4⟩ := h
    exact ⟨o, o1, o2, by omega, by omega⟩
  | false =>
    rw [if_neg (by decide)]
    cases a2 with
    | true =>
      simp only [cond_true, cond_false, Bool.and_eq_true, decide_eq_true_eq] at e2
      rw [if_pos rfl] at h
      obtain ⟨o, o1, o2, o3, o4⟩ := h
      omega
    | false =>
      simp only [cond_false, Bool.and_eq_true, decide_eq_true_eq] at e2
      rw [if_neg (by decide)] at h
      omega
theorem at_eqV_ok {a b : at_V} (e : at_eqV a b = true) : a = b := by
  unfold at_eqV at e
  split at e
  · rw [at_eq_ok e]
  · rw [at_eq_ok e]
  · rename_i p q
    simp only [Bool.and_eq_true] at e
    obtain ⟨p1, p2⟩ := p
    obtain ⟨q1, q2⟩ := q
    have e1 : p1 = q1 := Nat.eq_of_beq_eq_true e.1
    have e2 : p2 = q2 := at_eq_ok e.2
    rw [e1, e2]
  · rw [Nat.eq_of_beq_eq_true e]
  · rw [at_eq_ok e]
  · cases e
theorem at_un_ok : ∀ {l0 l : at_L}, at_un l0 l = true → l0.length = l.length ∧ ∀ (i : Nat) (a : at_V), l0[i]? = some (some a) → l[i]? = some (some a) := by
  intro l0
  induction l0 with
  | nil =>
    intro l e
    cases l with
    | nil => exact ⟨rfl, fun i a h => by simp at h⟩
    | cons b s => cases e
  | cons a r ih =>
    intro l e
    cases l with
    | nil => cases a <;> cases e
    | cons b s =>
      cases a with
      | none =>
        obtain ⟨h1, h2⟩ := ih (show at_un r s = true from e)
        refine ⟨by simp [h1], fun i c hc => ?_⟩
        cases i with
        | zero => cases hc
        | succ i => exact h2 i c hc
      | some a =>
        cases b with
        | none => cases e
        | some b =>
          have e : (at_eqV a b && at_un r s) = true := e
          simp only [Bool.and_eq_true] at e
          obtain ⟨h1, h2⟩ := ih e.2
          have hab := at_eqV_ok e.1
          subst hab
          refine ⟨by simp [h1], fun i c hc => ?_⟩
          cases i with
          | zero => exact hc
          | succ i => exact h2 i c hc
theorem at_eqF_ok {f g : at_F} (e : at_eqF f g = true) : f = g := by
  obtain ⟨f1, f2, f3, f4⟩ := f
  obtain ⟨g1, g2, g3, g4⟩ := g
  unfold at_eqF at e
  simp only [Bool.and_eq_true] at e
  obtain ⟨e1, e2, e3, e4⟩ := e
  have e1 := Nat.eq_of_beq_eq_true e1
  have e2 := at_eq_ok e2
  have e3 := at_eq_ok e3
  have e4 := at_eq_ok e4
  rw [e1, e2, e3, e4]
/-- the named words, where they are now -/
theorem at_bvs_ok {n k : Nat} {ν2 : Nat → Int} {m' : fl_M} (hag : at_ag n ν2 ν) : ∀ (locs : List (Nat × at_A × at_A)) (zs' : List Int) (fs : List at_F) (vals : List at_A), (∀ f ∈ fs, at_FT ν m f ∧ at_FW k f) → at_lz ν2 n m' locs zs' → at_bvs fs locs = some vals → ∃ zs, at_lz ν2 n m locs zs ∧ at_vz ν k vals zs ∧ zs.length = zs'.length := by
  intro locs
  induction locs with
  | nil =>
    intro zs' fs vals hf hl e
    cases e
    cases zs' with
    | nil => exact ⟨[], True.intro, True.intro, rfl⟩
    | cons z s => cases hl
  | cons q r ih =>
    intro zs' fs vals hf hl e
    cases zs' with
    | nil => cases hl
    | cons z s =>
      obtain ⟨⟨p, i, w1, w2, e1, e2, e3, e4⟩, h2⟩ := hl
      unfold at_bvs at e
      split at e
      · rename_i v vs ev evs
        cases e
        obtain ⟨zs, q1, q2, q3⟩ := ih s fs vs hf h2 evs
        obtain ⟨f1, f2⟩ := at_ffl_ok (p := p) (i := i) (n := k) (m := m) (ν := ν) (by rw [at_ev_ag hag w1]; exact e1) (by rw [at_ev_ag hag w2]; exact e2) fs hf ev
        exact ⟨(m.1 p i).toInt :: zs, ⟨⟨p, i, w1, w2, e1, e2, e3, rfl⟩, q1⟩, ⟨f2, f1, q2⟩, by simp [q3]⟩
      · cases e
theorem at_bz_ok {k : Nat} {P : at_P} (hP : at_GP ν P) : ∀ (vals : List at_A) (zs zs' : List Int) (bnd : List (Option Nat × at_T × Int × Int)), at_vz ν k vals zs → at_bz bnd zs' → zs.length = zs'.length → (vals.zip bnd).all (fun q => at_inR P q.1 q.2.2.2.1 q.2.2.2.2) = true → at_bz bnd zs := by
  intro vals
  induction vals with
  | nil =>
    intro zs zs' bnd hv hb hl _
    cases zs with
    | nil =>
      cases zs' with
      | nil => exact hb
      | cons z s => cases hl
    | cons z s => cases hv
  | cons v r ih =>
    intro zs zs' bnd hv hb hl e
    cases zs with
    | nil => cases hv
    | cons z s =>
      cases zs' with
      | nil => cases hl
      | cons z' s' =>
        cases bnd with
        | nil => cases hb
        | cons b bs =>
          rw [List.zip_cons_cons, List.all_cons, Bool.and_eq_true] at e
          obtain ⟨k1, k2⟩ := at_inR_ok hP e.1
          obtain ⟨v1, v2, v3⟩ := hv
          exact ⟨⟨by rw [← v2]; exact k1, by rw [← v2]; exact k2⟩, ih s s' bs v3 hb.2 (by simpa using hl) e.2⟩
theorem at_back_ok {h0 : Nat} {P2 : at_P} {wr2 : List at_W} {brk2 : List (Nat × at_A)} {A : at_Ac} {ν2 : Nat → Int} {m' : fl_M} {fl' : fl_L} {zs' : List Int} (hA : at_AO P2 wr2 brk2 A) (hF : at_Ft X m0 h0 P2 wr2 brk2 A ν2 m' fl' zs') (hag : at_ag P2.1.length ν2 ν) (h : at_G X m0 m ν S lv [] fl []) (hh : h0 ≤ m.2.2) (e : at_bck S lv A = true) : ∃ zs, at_Ft X m0 h0 P2 wr2 brk2 A ν2 m fl zs ∧ at_sm m fl zs A.2.1.2.2.2.2.2.2 ≤ at_ev ν A.2.2.2.2.2.2.2 - 1 ∧ 1 ≤ at_ev ν A.2.2.2.2.2.2.2 := by
  obtain ⟨k0, k1, k2, k3, k4, k5, k6, k7, k8, k9, k10, k11, k12, k13⟩ := hF
  obtain ⟨P3, a1, a2, a3, a4⟩ := hA
  unfold at_bck at e
  dsimp only at e
  split at e
  · cases e
  · rename_i vals ev
    simp only [Bool.and_eq_true] at e
    obtain ⟨e1, e2, e3, e4, e5, e6, e7, e8⟩ := e
    have hK := h.1.1
    obtain ⟨zs, q1, q2, q3⟩ := at_bvs_ok (m := m) hag _ zs' _ vals h.1.2.1 k12 ev
    have hn : ∀ a, at_nF S.2.1 = some a → at_wf S.1.1.length a ∧ at_ev ν a = at_w m 2 := by
      intro a ea
      obtain ⟨t1, t2⟩ := at_ffl_ok (p := 280) (i := 2) (n := S.1.1.length) (m := m) (ν := ν) (at_ev_c _ _) (at_ev_c _ _) S.2.1 h.1.2.1 ea
      exact ⟨t2, t1⟩
    have hc := at_ckc_ok hK h.2.1 h.2.2.1 q2 hn e4
    split at e8
    · rename_i me eme
      simp only [Bool.and_eq_true] at e8
      obtain ⟨t1, t2⟩ := at_tm_ok h.2.1 h.2.2.1 q2 hn eme
      have s1 := at_le_ok hK.1 e8.1
      have s2 := at_le_ok hK.1 e8.2
      rw [at_ev_sub, at_ev_c] at s1
      rw [at_ev_add, at_ev_sub, at_ev_c, t2] at s2
      refine ⟨zs, ⟨hh, k1, ?_, k3, ?_, k5, h.1.2.2.2.1, ?_, h.1.2.2.2.2.2.1, ?_, fun q hq => at_hc1_ok hK.1 h.2.1 (List.all_eq_true.mp e1 q hq), at_bz_ok hK.1 vals zs zs' _ q2 k11 q3 e3, q1, hc⟩, by omega, by omega⟩
      · obtain ⟨u1, u2⟩ := at_un_ok e2
        refine ⟨u1.trans h.2.1.1, fun i a ea => ?_⟩
        obtain ⟨v, v1, v2⟩ := h.2.1.2 i a (u2 i a ea)
        exact ⟨v, v1, at_RV.ag v2 (k3 a (List.mem_of_getElem? ea)) (fun x hx => (hag x hx).symm) (Nat.le_refl _)⟩
      · intro f hf
        obtain ⟨g, hg, eg⟩ := List.any_eq_true.mp (List.all_eq_true.mp e5 f hf)
        have eg := at_eqF_ok eg
        subst eg
        obtain ⟨p, i, c1, c2, c3, c4⟩ := (h.1.2.1 f hg).1
        obtain ⟨w1, w2, w3⟩ := (k4 f hf).2
        exact ⟨⟨p, i, by rw [← at_ev_ag hag w1]; exact c1, by rw [← at_ev_ag hag w2]; exact c2, c3, by rw [← at_ev_ag hag w3]; exact c4⟩, w1, w2, w3⟩
      · have hsub : ∀ b ∈ S.2.2.2, b ∈ brk2 := fun b hb => by
          have := at_hb_ok (List.all_eq_true.mp e7 b hb)
          rw [a3] at this
          exact this
        obtain ⟨r1, r2⟩ := h.1.2.2.2.2.1
        have e0 : ∀ w c, at_nb ν2 brk2 w c → at_nb ν S.2.2.2 w c := fun w c hnb b hb hw => by
          rw [at_ev_ag hag (k5 b (hsub b hb))]
          exact hnb b (hsub b hb) hw
        refine ⟨fun c hc hl => ?_, r2⟩
        obtain ⟨x1, x2, x3, x4⟩ := r1 c hc hl
        exact ⟨fun a => x1 (e0 _ _ a), fun a => x2 (e0 _ _ a), fun a => x3 (e0 _ _ a), fun a => x4 (e0 _ _ a)⟩
      · refine ⟨h.1.2.2.2.2.2.2.1, fun p i hne => ?_⟩
        obtain ⟨w, hw, hcv⟩ := h.1.2.2.2.2.2.2.2 p i hne
        obtain ⟨w', hw', ecv⟩ := List.any_eq_true.mp (List.all_eq_true.mp e6 w hw)
        rw [a3] at hw'
        exact ⟨w', hw', at_cvW_ok ecv hcv⟩
    · cases e8
end ATEN

end

/-! 75.use.lean.txt -/
section
/-! ===== contracts ===== -/
def at_Good (X : fl_M → Prop) (m : fl_M) : Prop := at_RG m ∧ at_RL (fun _ => 0) [] m ∧ X m
def at_agk (h : Nat) : List at_K → List fl_V → Prop
  | [], [] => True
  | .inl k :: r, v :: s => (∃ p, v = .inr (.inr (.inl (k.1, p))) ∧ fk_K p = k.1 ∧ p < fl_N h ∧ ∀ q, k.2 = some q → p = q) ∧ at_agk h r s
  | .inr (false, lo, hi) :: r, v :: s => (∃ x : Int32, v = .inl x ∧ lo ≤ x.toInt ∧ x.toInt ≤ hi) ∧ at_agk h r s
  | .inr (true, lo, hi) :: r, v :: s => (∃ x : Int64, v = .inr (.inl x) ∧ lo ≤ x.toInt ∧ x.toInt ≤ hi) ∧ at_agk h r s
  | _, _ => False
def at_ltc (m : fl_M) (as_ : List fl_V) (q : Nat × Int) : Prop := ∃ x : Int32, as_[q.1]? = some (.inl x) ∧ x.toInt + q.2 + 1 ≤ at_w m 2
def at_rtc (r : Option (Nat ⊕ (Bool × Int × Int))) (lt : Bool) (m : fl_M) (v : Option fl_V) : Prop := match r with
  | none => v = none
  | some (.inl τ) => ∃ p, v = some (.inr (.inr (.inl (τ, p)))) ∧ fk_K p = τ ∧ p < fl_N m.2.2 ∧ p ≤ 1000000
  | some (.inr (false, lo, hi)) => ∃ x : Int32, v = some (.inl x) ∧ lo ≤ x.toInt ∧ x.toInt ≤ hi ∧ (lt = true → x.toInt + 1 ≤ at_w m 2)
  | some (.inr (true, lo, hi)) => ∃ x : Int64, v = some (.inr (.inl x)) ∧ lo ≤ x.toInt ∧ x.toInt ≤ hi ∧ (lt = true → x.toInt + 1 ≤ at_w m 2)
/-- THE CONTRACT HOLDS -/
def at_Valid (X : fl_M → Prop) (P : am_Pg) (c : at_C) : Prop := ∀ (m : fl_M) (as_ : List fl_V), at_Good X m → at_agk m.2.2 c.2.1 as_ → (∀ q ∈ c.2.2.1, at_ltc m as_ q) → fl_Tq P c.1 0 (fl_args (am_mxl P c.1) as_) [] m (fun v m' => at_Good X m' ∧ at_MD m m' c.2.2.2.2.2 ∧ at_rtc c.2.2.2.1 c.2.2.2.2.1 m' v)
def at_RO (ν : Nat → Int) (h n : Nat) (a : Option at_V) (v : Option fl_V) : Prop := match a, v with
  | none, none => True
  | some a, some v => at_RV ν h a v ∧ at_wV n a
  | _, _ => False
section ATUS
variable {X : fl_M → Prop} {m0 m : fl_M} {ν ν' : Nat → Int} {S : at_S} {lv : at_L} {fl : fl_L}
theorem at_aok_ok {P : at_P} {h : Nat} (hP : at_GP ν P) : ∀ (ks : List at_K) (as_ : List at_V) (vs : List fl_V), at_RS ν h as_ vs → at_kmt ks as_ = true → at_aok P ks as_ = true → at_agk h ks vs := by
  intro ks
  induction ks with
  | nil =>
    intro as_ vs hr hk _
    cases as_ with
    | nil => rw [hr.nil]; exact True.intro
    | cons a s => cases hk
  | cons k r ih =>
    intro as_ vs hr hk e
    cases as_ with
    | nil =>
      rcases k with k | ⟨b, q⟩
      · cases hk
      · cases b <;> cases hk
    | cons a s =>
      obtain ⟨v, vs', rfl, hv, hr'⟩ := hr.cons
      rcases k with ⟨τ, po⟩ | ⟨b, lo, hi⟩
      · rcases a with a | a | q | c | d
        · cases hk
        · cases hk
        · have hk : (Nat.beq τ q.1 && at_kmt r s) = true := hk
          rw [Bool.and_eq_true] at hk
          obtain ⟨hk1, hk2⟩ := hk
          have hk1 := Nat.eq_of_beq_eq_true hk1
          obtain ⟨p, rfl, ep, kp, hp⟩ := hv
          obtain ⟨q1, q2⟩ := q
          dsimp only at hk1 ep kp
          subst hk1
          cases po with
          | none =>
            exact ⟨⟨p, rfl, kp, hp, fun q hq => by cases hq⟩, ih s vs' hr' hk2 e⟩
          | some p0 =>
            have e : (at_eq q2 (at_c p0) && at_aok P r s) = true := e
            rw [Bool.and_eq_true] at e
            refine ⟨⟨p, rfl, kp, hp, fun q hq => ?_⟩, ih s vs' hr' hk2 e.2⟩
            cases hq
            rw [at_eq_ok e.1, at_ev_c] at ep
            omega
        · cases hk
        · cases hk
      · cases b with
        | false =>
          rcases a with a | a | q | c | d
          · obtain ⟨x, rfl, ex⟩ := hv
            have e : (at_inR P a lo hi && at_aok P r s) = true := e
            rw [Bool.and_eq_true] at e
            obtain ⟨i1, i2⟩ := at_inR_ok hP e.1
            exact ⟨⟨x, rfl, by omega, by omega⟩, ih s vs' hr' hk e.2⟩
          · cases hk
          · cases hk
          · cases hk
          · cases hk
        | true =>
          rcases a with a | a | q | c | d
          · cases hk
          · obtain ⟨x, rfl, ex⟩ := hv
            have e : (at_inR P a lo hi && at_aok P r s) = true := e
            rw [Bool.and_eq_true] at e
            obtain ⟨i1, i2⟩ := at_inR_ok hP e.1
            exact ⟨⟨x, rfl, by omega, by omega⟩, ih s vs' hr' hk e.2⟩
          · cases hk
          · cases hk
          · cases hk
theorem at_RS.get {h : Nat} {as_ : List at_V} {vs : List fl_V} (hr : at_RS ν h as_ vs) {k : Nat} {a : at_V} (e : as_[k]? = some a) : ∃ v, vs[k]? = some v ∧ at_RV ν h a v := by
  induction as_ generalizing vs k with
  | nil => simp at e
  | cons b s ih =>
    obtain ⟨v, vs', rfl, hv, hr'⟩ := hr.cons
    cases k with
    | zero => cases e; exact ⟨v, rfl, hv⟩
    | succ k => exact ih hr' e
theorem at_mh_ok {P : at_P} (hP : at_GP ν P) {f : at_F} {w : at_W} {i : Nat} (ei : at_ev ν f.2.2.1 = i) (e : at_mh P.1 f w = false) : ¬ at_cv w f.1 i := by
  obtain ⟨w1, w2, w3, w4⟩ := w
  rintro ⟨h1, h2⟩
  dsimp only at h1 h2
  unfold at_mh at e
  dsimp only at e
  rw [h1, Nat.beq_refl, Bool.true_and] at e
  cases w2 with
  | true =>
    simp only [cond_true, Bool.not_eq_false'] at e
    have hd := at_dj_ok hP.1 e
    rw [if_pos rfl] at h2
    obtain ⟨o, o1, o2, o3, o4⟩ := h2
    rw [ei] at hd
    refine hd ⟨o, (i : Int) - 444 - w3 - 61 * o, o1, ?_, by omega, ?_, ?_⟩
    · show o ≤ 16 - 1; omega
    · show (i : Int) - 444 - w3 - 61 * o ≤ w4 - w3 + 1 - 1; omega
    · show (i : Int) = 444 + w3 + 61 * o + ((i : Int) - 444 - w3 - 61 * o); omega
  | false =>
    simp only [cond_false, Bool.not_eq_false', Bool.or_eq_true, decide_eq_true_eq] at e
    rw [if_neg (by decide)] at h2
    have l := at_lo_le hP.1 f.2.2.1
    have u := at_hi_le hP.1 f.2.2.1
    omega
theorem at_GS.good (h : at_GS X m0 m ν S) (hb : S.2.2.2.isEmpty = true) : at_Good X m := by
  have hb := List.isEmpty_iff.mp hb
  obtain ⟨r1, r2⟩ := h.2.2.2.2.1
  rw [hb] at r1
  have hnb : ∀ w c, at_nb ν [] w c := fun w c b hb => by cases hb
  refine ⟨h.2.2.2.1, ⟨fun c hc hl => ?_, r2⟩, h.2.2.2.2.2.1⟩
  obtain ⟨x1, x2, x3, x4⟩ := r1 c hc hl
  exact ⟨fun _ => x1 (hnb _ _), fun _ => x2 (hnb _ _), fun _ => x3 (hnb _ _), fun _ => x4 (hnb _ _)⟩
theorem at_Good.RL (h : at_Good X m) (brk : List (Nat × at_A)) : at_RL ν brk m := by
  obtain ⟨-, ⟨r1, r2⟩, -⟩ := h
  have hnb : ∀ w c, at_nb (fun _ => 0) [] w c := fun w c b hb => by cases hb
  refine ⟨fun c hc hl => ?_, r2⟩
  obtain ⟨x1, x2, x3, x4⟩ := r1 c hc hl
  exact ⟨fun _ => x1 (hnb _ _), fun _ => x2 (hnb _ _), fun _ => x3 (hnb _ _), fun _ => x4 (hnb _ _)⟩
/-- the memory behind a call by contract -/
theorem at_GS.call {m' : fl_M} {mods : List at_W} (h : at_GS X m0 m ν S) (hg : at_Good X m') (hm : at_MD m m' mods) : at_GS X m0 m' ν (S.1, S.2.1.filter (fun f => !mods.any (at_mh S.1.1 f)), mods.filter (fun w => !S.2.2.1.any (at_eqW w)) ++ S.2.2.1, S.2.2.2) := by
  obtain ⟨h1, h2, h3, h4, h5, h6, h7⟩ := h
  refine ⟨h1, fun f hf => ?_, h3, hg.1, hg.RL _, hg.2.2, Nat.le_trans h7.1 hm.1, fun p i hne => ?_⟩
  · obtain ⟨hf, hq⟩ := List.mem_filter.mp hf
    obtain ⟨⟨p, i, e1, e2, e3, e4⟩, hw⟩ := h2 f hf
    refine ⟨⟨p, i, e1, e2, e3, ?_⟩, hw⟩
    have : m'.1 p i = m.1 p i := by
      rcases Classical.em (m'.1 p i = m.1 p i) with h | h
      · exact h
      · obtain ⟨w, hw, hcv⟩ := hm.2 p i h
        rw [e3] at hcv
        exfalso
        simp only [Bool.not_eq_true', List.any_eq_false] at hq
        have := hq w hw
        refine at_mh_ok h1.1 e2 ?_ hcv
        cases hx : at_mh S.1.1 f w with
        | false => rfl
        | true => exact absurd hx this
    rw [this]
    exact e4
  · rcases Classical.em (m'.1 p i = m.1 p i) with h | h
    · obtain ⟨w, hw, hcv⟩ := h7.2 p i (by rw [← h]; exact hne)
      exact ⟨w, List.mem_append_right _ hw, hcv⟩
    · obtain ⟨w, hw, hcv⟩ := hm.2 p i h
      cases hx : S.2.2.1.any (at_eqW w) with
      | true =>
        obtain ⟨w', hw', e⟩ := List.any_eq_true.mp hx
        have e := at_eqW_ok e
        subst e
        exact ⟨w, List.mem_append_right _ hw', hcv⟩
      | false => exact ⟨w, List.mem_append_left _ (List.mem_filter.mpr ⟨hw, by rw [hx]; rfl⟩), hcv⟩
theorem at_use_ok {as_ : List at_V} {vs : List fl_V} {c : at_C} {o : at_O} (h : at_GS X m0 m ν S) (hr : at_RS ν m.2.2 as_ vs) (hw : ∀ a ∈ as_, at_wV S.1.1.length a) (hk : at_kmt c.2.1 as_ = true) (e : at_use S as_ c = some o) : at_Good X m ∧ at_agk m.2.2 c.2.1 vs ∧ (∀ q ∈ c.2.2.1, at_ltc m vs q) ∧ ∀ (m' : fl_M) (v : Option fl_V), at_Good X m' → at_MD m m' c.2.2.2.2.2 → at_rtc c.2.2.2.1 c.2.2.2.2.1 m' v → ∃ ν', at_ag S.1.1.length ν ν' ∧ S.1.1.length ≤ o.1.1.1.length ∧ at_GS X m0 m' ν' o.1 ∧ at_RO ν' m'.2.2 o.1.1.1.length o.2 v := by
  obtain ⟨ν1, ag1, le1, g1, w1, e1, same1⟩ := at_cs_ok h
  unfold at_use at e
  generalize at_cs S = s at le1 g1 w1 e1 same1 e
  dsimp only at e
  obtain ⟨hb, e⟩ := am_bif e
  simp only [Bool.and_eq_true] at hb
  obtain ⟨b1, b2, b3⟩ := hb
  have hr1 := hr.ag hw ag1 (Nat.le_refl m.2.2)
  refine ⟨g1.good b1, at_aok_ok g1.1.1 _ _ _ hr1 hk b2, fun q hq => ?_, fun m' v hg hm hv => ?_⟩
  · have := List.all_eq_true.mp b3 q hq
    unfold at_ltk at this
    split at this
    · rename_i a ea
      obtain ⟨v, ev, x, rfl, ex⟩ := hr1.get ea
      have := at_le_ok g1.1.1 this
      rw [at_ev_add, at_ev_sub, at_ev_c, e1] at this
      exact ⟨x, ev, by omega⟩
    · cases this
  · have g2 := g1.call hg hm
    generalize hS : (s.1.1, s.1.2.1.filter (fun f => !c.2.2.2.2.2.any (at_mh s.1.1.1 f)), c.2.2.2.2.2.filter (fun w => !s.1.2.2.1.any (at_eqW w)) ++ s.1.2.2.1, s.1.2.2.2) = S1 at g2 e
    have hP1 : S1.1 = s.1.1 := by rw [← hS]
    have le2 : S.1.1.length ≤ S1.1.1.length := by rw [hP1]; exact le1
    have e := Option.some.inj e
    unfold at_rtc at hv
    unfold at_urt at e
    generalize c.2.2.2.1 = rt at hv e
    rcases rt with _ | τ | ⟨b, lo, hi⟩
    · subst e
      have hv : v = none := hv
      subst hv
      exact ⟨ν1, ag1, le2, g2, True.intro⟩
    · subst e
      obtain ⟨p, rfl, p1, p2, p3⟩ := hv
      obtain ⟨ν2, hx, hw2, he⟩ := at_new_X g2.1 (lo := 0) (hi := 1000000) (x := p) (by omega) (by omega)
      exact ⟨ν2, ag1.trans (by rw [← hP1]; exact hx.1) le1, Nat.le_trans le2 hx.2.1, g2.ext hx, ⟨⟨p, rfl, he, p1, p2⟩, hw2⟩⟩
    · have key : ∀ (z : Int) (vv : fl_V), lo ≤ z → z ≤ hi → (c.2.2.2.2.1 = true → z + 1 ≤ at_w m' 2) → v = some vv → (∀ ν' (a : at_A), at_ev ν' a = z → at_RV ν' m'.2.2 (bif b then .inr (.inl a) else .inl a) vv) → ∃ ν', at_ag S.1.1.length ν ν' ∧ S.1.1.length ≤ o.1.1.1.length ∧ at_GS X m0 m' ν' o.1 ∧ at_RO ν' m'.2.2 o.1.1.1.length o.2 v := by
        intro z vv z1 z2 z3 hvv hRV
        have hsp : at_Sp ν1 S1.1 (bif decide (lo = hi) then (S1.1, at_c lo) else at_fr S1.1 lo hi) z := by
          cases hd : decide (lo = hi) with
          | true =>
            have hd := of_decide_eq_true hd
            have : z = lo := by omega
            rw [this]
            exact at_Sp.c g2.1 _
          | false => exact at_fr_ok g2.1 z1 z2
        have e : at_urn c.2.2.2.2.1 b S1 (bif decide (lo = hi) then (S1.1, at_c lo) else at_fr S1.1 lo hi) = o := e
        generalize (bif decide (lo = hi) then (S1.1, at_c lo) else at_fr S1.1 lo hi) = vq at hsp e
        obtain ⟨ν2, hx, hw2, he⟩ := hsp
        have g3 := g2.ext hx
        have ag2 : at_ag S.1.1.length ν ν2 := ag1.trans (by rw [← hP1]; exact hx.1) le1
        have le3 : S.1.1.length ≤ vq.1.1.length := Nat.le_trans le2 hx.2.1
        subst hvv
        unfold at_urn at e
        cases hlt : c.2.2.2.2.1 with
        | false =>
          rw [hlt] at e
          subst e
          refine ⟨ν2, ag2, le3, g3, hRV ν2 _ he, ?_⟩
          cases b <;> exact hw2
        | true =>
          rw [hlt] at e
          obtain ⟨ν3, ag3, le4, g4, w4, e4, same4⟩ := at_cs_ok g3
          dsimp only [cond_true] at e
          generalize at_cs (vq.1, S1.2) = s2 at le4 g4 w4 e4 same4 e
          have le4' : vq.1.1.length ≤ s2.1.1.1.length := le4
          have hw4 := hw2.mono le4'
          have he4 : at_ev ν3 vq.2 = z := by rw [at_ev_ag ag3 hw2]; exact he
          obtain ⟨g5, l5⟩ := g4.tr (a := at_add (at_sub vq.2 s2.2) (at_c 1)) (at_wf_add (at_wf_sub hw4 w4) at_wf_c) (by
            rw [at_ev_add, at_ev_sub, at_ev_c, he4, e4]
            have := z3 hlt
            omega)
          subst e
          refine ⟨ν3, ag2.trans ag3 le3, ?_, g5, hRV ν3 _ he4, ?_⟩
          · dsimp only; rw [l5]; omega
          · dsimp only
            rw [l5]
            cases b <;> exact hw4
      cases b with
      | false =>
        obtain ⟨x, rfl, x1, x2, x3⟩ := hv
        exact key x.toInt _ x1 x2 x3 rfl (fun ν' a ha => ⟨x, rfl, ha.symm⟩)
      | true =>
        obtain ⟨x, rfl, x1, x2, x3⟩ := hv
        exact key x.toInt _ x1 x2 x3 rfl (fun ν' a ha => ⟨x, rfl, ha.symm⟩)
end ATUS

end

/-! 76.prim.lean.txt -/
section
/-! ===== the lesser of two; held to two bounds ===== -/
section ATPR
variable {L : Nat} {xs : Nat → Int32} {m : fl_M} {Q : Option fl_V → fl_M → Prop}
theorem at_nok (h : Nat) : ∀ v ∈ ([] : List fl_V), fl_ok h v := fun v hv => by cases hv
theorem at_iok (h : Nat) {x : Int32} {s : List fl_V} (hs : ∀ v ∈ s, fl_ok h v) : ∀ v ∈ (.inl x :: s : List fl_V), fl_ok h v := fun v hv => by
  rcases List.mem_cons.mp hv with rfl | hv
  · exact True.intro
  · exact hs v hv
theorem at_lesser (x y : Int32) (k : Q (some (.inl (if x < y then x else y))) m) : fl_Tq (pw_P L xs) 187 0 (fl_args (am_mxl (pw_P L xs) 187) [.inl x, .inl y]) [] m Q := by
  refine fl_Tq.stp (ins := .iload_n 0) (pc' := 1) (lv' := [some (.inl x), some (.inl y)]) (st' := [.inl x]) (m' := m) rfl rfl (at_nok _) rfl ?_
  refine fl_Tq.stp (ins := .iload_n 1) (pc' := 2) (lv' := [some (.inl x), some (.inl y)]) (st' := [.inl y, .inl x]) (m' := m) rfl rfl (at_iok _ (at_nok _)) rfl ?_
  by_cases h : x < y
  · rw [if_pos h] at k
    have hc : am_c2 .ge x y = false := by
      rw [at_c2]
      have := Int32.lt_iff_toInt_lt.mp h
      exact decide_eq_false (by omega)
    refine fl_Tq.stp (ins := .if_icmp .ge 7) (pc' := 5) (lv' := [some (.inl x), some (.inl y)]) (st' := []) (m' := m) rfl rfl (at_iok _ (at_iok _ (at_nok _))) ?_ ?_
    · show fl_br (am_c2 .ge x y) 2 7 _ _ _ = _
      rw [hc]
      rfl
    refine fl_Tq.stp (ins := .iload_n 0) (pc' := 6) (lv' := [some (.inl x), some (.inl y)]) (st' := [.inl x]) (m' := m) rfl rfl (at_nok _) rfl ?_
    refine fl_Tq.stp (ins := .goto 4) (pc' := 10) (lv' := [some (.inl x), some (.inl y)]) (st' := [.inl x]) (m' := m) rfl rfl (at_iok _ (at_nok _)) rfl ?_
    exact fl_Tq.ret (ins := .ireturn) rfl rfl rfl k
  · rw [if_neg h] at k
    have hc : am_c2 .ge x y = true := by
      rw [at_c2]
      have : ¬ x.toInt < y.toInt := fun q => h (Int32.lt_iff_toInt_lt.mpr q)
      exact decide_eq_true (by omega)
    refine fl_Tq.stp (ins := .if_icmp .ge 7) (pc' := 9) (lv' := [some (.inl x), some (.inl y)]) (st' := []) (m' := m) rfl rfl (at_iok _ (at_iok _ (at_nok _))) ?_ ?_
    · show fl_br (am_c2 .ge x y) 2 7 _ _ _ = _
      rw [hc]
      rfl
    refine fl_Tq.stp (ins := .iload_n 1) (pc' := 10) (lv' := [some (.inl x), some (.inl y)]) (st' := [.inl y]) (m' := m) rfl rfl (at_nok _) rfl ?_
    exact fl_Tq.ret (ins := .ireturn) rfl rfl rfl k
theorem at_held (v l h : Int32) (k : Q (some (.inl (if v < l then l else if h < v then h else v))) m) : fl_Tq (pw_P L xs) 186 0 (fl_args (am_mxl (pw_P L xs) 186) [.inl v, .inl l, .inl h]) [] m Q := by
  refine fl_Tq.stp (ins := .iload_n 0) (pc' := 1) (lv' := [some (.inl v), some (.inl l), some (.inl h)]) (st' := [.inl v]) (m' := m) rfl rfl (at_nok _) rfl ?_
  refine fl_Tq.stp (ins := .iload_n 1) (pc' := 2) (lv' := [some (.inl v), some (.inl l), some (.inl h)]) (st' := [.inl l, .inl v]) (m' := m) rfl rfl (at_iok _ (at_nok _)) rfl ?_
  by_cases h1 : v < l
  · rw [if_pos h1] at k
    have hc : am_c2 .ge v l = false := by
      rw [at_c2]
      have := Int32.lt_iff_toInt_lt.mp h1
      exact decide_eq_false (by omega)
    refine fl_Tq.stp (ins := .if_icmp .ge 7) (pc' := 5) (lv' := [some (.inl v), some (.inl l), some (.inl h)]) (st' := []) (m' := m) rfl rfl (at_iok _ (at_iok _ (at_nok _))) ?_ ?_
    · show fl_br (am_c2 .ge v l) 2 7 _ _ _ = _
      rw [hc]
      rfl
    refine fl_Tq.stp (ins := .iload_n 1) (pc' := 6) (lv' := [some (.inl v), some (.inl l), some (.inl h)]) (st' := [.inl l]) (m' := m) rfl rfl (at_nok _) rfl ?_
    refine fl_Tq.stp (ins := .goto 13) (pc' := 19) (lv' := [some (.inl v), some (.inl l), some (.inl h)]) (st' := [.inl l]) (m' := m) rfl rfl (at_iok _ (at_nok _)) rfl ?_
    exact fl_Tq.ret (ins := .ireturn) rfl rfl rfl k
  · rw [if_neg h1] at k
    have hc : am_c2 .ge v l = true := by
      rw [at_c2]
      have : ¬ v.toInt < l.toInt := fun q => h1 (Int32.lt_iff_toInt_lt.mpr q)
      exact decide_eq_true (by omega)
    refine fl_Tq.stp (ins := .if_icmp .ge 7) (pc' := 9) (lv' := [some (.inl v), some (.inl l), some (.inl h)]) (st' := []) (m' := m) rfl rfl (at_iok _ (at_iok _ (at_nok _))) ?_ ?_
    · show fl_br (am_c2 .ge v l) 2 7 _ _ _ = _
      rw [hc]
      rfl
    refine fl_Tq.stp (ins := .iload_n 0) (pc' := 10) (lv' := [some (.inl v), some (.inl l), some (.inl h)]) (st' := [.inl v]) (m' := m) rfl rfl (at_nok _) rfl ?_
    refine fl_Tq.stp (ins := .iload_n 2) (pc' := 11) (lv' := [some (.inl v), some (.inl l), some (.inl h)]) (st' := [.inl h, .inl v]) (m' := m) rfl rfl (at_iok _ (at_nok _)) rfl ?_
    by_cases h2 : h < v
    · rw [if_pos h2] at k
      have hc : am_c2 .le v h = false := by
        rw [at_c2]
        have := Int32.lt_iff_toInt_lt.mp h2
        exact decide_eq_false (by omega)
      refine fl_Tq.stp (ins := .if_icmp .le 7) (pc' := 14) (lv' := [some (.inl v), some (.inl l), some (.inl h)]) (st' := []) (m' := m) rfl rfl (at_iok _ (at_iok _ (at_nok _))) ?_ ?_
      · show fl_br (am_c2 .le v h) 11 7 _ _ _ = _
        rw [hc]
        rfl
      refine fl_Tq.stp (ins := .iload_n 2) (pc' := 15) (lv' := [some (.inl v), some (.inl l), some (.inl h)]) (st' := [.inl h]) (m' := m) rfl rfl (at_nok _) rfl ?_
      refine fl_Tq.stp (ins := .goto 4) (pc' := 19) (lv' := [some (.inl v), some (.inl l), some (.inl h)]) (st' := [.inl h]) (m' := m) rfl rfl (at_iok _ (at_nok _)) rfl ?_
      exact fl_Tq.ret (ins := .ireturn) rfl rfl rfl k
    · rw [if_neg h2] at k
      have hc : am_c2 .le v h = true := by
        rw [at_c2]
        have : ¬ h.toInt < v.toInt := fun q => h2 (Int32.lt_iff_toInt_lt.mpr q)
        exact decide_eq_true (by omega)
      refine fl_Tq.stp (ins := .if_icmp .le 7) (pc' := 18) (lv' := [some (.inl v), some (.inl l), some (.inl h)]) (st' := []) (m' := m) rfl rfl (at_iok _ (at_iok _ (at_nok _))) ?_ ?_
      · show fl_br (am_c2 .le v h) 11 7 _ _ _ = _
        rw [hc]
        rfl
      refine fl_Tq.stp (ins := .iload_n 0) (pc' := 19) (lv' := [some (.inl v), some (.inl l), some (.inl h)]) (st' := [.inl v]) (m' := m) rfl rfl (at_nok _) rfl ?_
      exact fl_Tq.ret (ins := .ireturn) rfl rfl rfl k
theorem at_prim_ok {X : fl_M → Prop} {m0 : fl_M} {ν : Nat → Int} {S : at_S} {mj : Nat} {as_ : List at_V} {vs : List fl_V} {o : at_O} (h : at_GS X m0 m ν S) (hr : at_RS ν m.2.2 as_ vs) (hw : ∀ a ∈ as_, at_wV S.1.1.length a) (e : at_prim mj S as_ = some o) (k : ∀ (v : Option fl_V) (ν' : Nat → Int), at_ag S.1.1.length ν ν' → S.1.1.length ≤ o.1.1.1.length → at_GS X m0 m ν' o.1 → at_RO ν' m.2.2 o.1.1.1.length o.2 v → Q v m) : fl_Tq (pw_P L xs) mj 0 (fl_args (am_mxl (pw_P L xs) mj) vs) [] m Q := by
  unfold at_prim at e
  split at e
  · rename_i a b
    cases e
    obtain ⟨v0, s0, rfl, ⟨x, rfl, ex⟩, hr1⟩ := hr.cons
    obtain ⟨v1, s1, rfl, ⟨y, rfl, ey⟩, hr2⟩ := hr1.cons
    rw [hr2.nil]
    have wa : at_wf S.1.1.length a := hw (.inl a) (by simp)
    have wb : at_wf S.1.1.length b := hw (.inl b) (by simp)
    refine at_lesser x y ?_
    have hz : (if x < y then x else y).toInt = min (at_ev ν a) (at_ev ν b) := by
      by_cases hxy : x < y
      · rw [if_pos hxy]
        have := Int32.lt_iff_toInt_lt.mp hxy
        omega
      · rw [if_neg hxy]
        have : ¬ x.toInt < y.toInt := fun q => hxy (Int32.lt_iff_toInt_lt.mpr q)
        omega
    generalize (if x < y then x else y) = z at hz ⊢
    have la := at_lo_le h.1.1.1 a
    have ua := at_hi_le h.1.1.1 a
    have lb := at_lo_le h.1.1.1 b
    have ub := at_hi_le h.1.1.1 b
    obtain ⟨ν1, hx, hw1, he⟩ := at_new_X h.1 (lo := min (at_lo S.1.1 a) (at_lo S.1.1 b)) (hi := min (at_hi S.1.1 a) (at_hi S.1.1 b)) (x := z.toInt) (by omega) (by omega)
    have ea1 := at_ev_ag hx.1 wa
    have eb1 := at_ev_ag hx.1 wb
    obtain ⟨x2, l2⟩ := at_try_X hx.2.2 (a := at_sub (at_nv S.1) a) (at_wf_sub hw1 (wa.mono hx.2.1)) (by rw [at_ev_sub, he, ea1]; omega)
    have x12 := hx.trans x2
    obtain ⟨x3, l3⟩ := at_try_X x12.2.2 (a := at_sub (at_nv S.1) b) (at_wf_sub (hw1.mono x2.2.1) (wb.mono x12.2.1)) (by rw [at_ev_sub, he, eb1]; omega)
    have x13 := x12.trans x3
    exact k _ ν1 x13.1 x13.2.1 (h.ext x13) ⟨⟨z, rfl, he.symm⟩, hw1.mono (Nat.le_trans x2.2.1 x3.2.1)⟩
  · rename_i a l u
    obtain ⟨hb, e⟩ := am_bif e
    cases e
    obtain ⟨v0, s0, rfl, ⟨x, rfl, ex⟩, hr1⟩ := hr.cons
    obtain ⟨v1, s1, rfl, ⟨y, rfl, ey⟩, hr2⟩ := hr1.cons
    obtain ⟨v2, s2, rfl, ⟨w, rfl, ew⟩, hr3⟩ := hr2.cons
    rw [hr3.nil]
    have wl : at_wf S.1.1.length l := hw (.inl l) (by simp)
    have wu : at_wf S.1.1.length u := hw (.inl u) (by simp)
    have hlu := at_le_ok h.1.1 hb
    rw [at_ev_sub] at hlu
    refine at_held x y w ?_
    have hz : at_ev ν l ≤ (if x < y then y else if w < x then w else x).toInt ∧ (if x < y then y else if w < x then w else x).toInt ≤ at_ev ν u := by
      by_cases hxy : x < y
      · rw [if_pos hxy]
        omega
      · rw [if_neg hxy]
        have h3 : ¬ x.toInt < y.toInt := fun q => hxy (Int32.lt_iff_toInt_lt.mpr q)
        by_cases hwx : w < x
        · rw [if_pos hwx]
          omega
        · rw [if_neg hwx]
          have h4 : ¬ w.toInt < x.toInt := fun q => hwx (Int32.lt_iff_toInt_lt.mpr q)
          omega
    generalize (if x < y then y else if w < x then w else x) = z at hz ⊢
    have ll := at_lo_le h.1.1.1 l
    have uu := at_hi_le h.1.1.1 u
    obtain ⟨ν1, hx, hw1, he⟩ := at_new_X h.1 (lo := at_lo S.1.1 l) (hi := at_hi S.1.1 u) (x := z.toInt) (by omega) (by omega)
    have el1 := at_ev_ag hx.1 wl
    have eu1 := at_ev_ag hx.1 wu
    obtain ⟨x2, l2⟩ := at_try_X hx.2.2 (a := at_sub (at_nv S.1) u) (at_wf_sub hw1 (wu.mono hx.2.1)) (by rw [at_ev_sub, he, eu1]; omega)
    have x12 := hx.trans x2
    obtain ⟨x3, l3⟩ := at_try_X x12.2.2 (a := at_sub l (at_nv S.1)) (at_wf_sub (wl.mono x12.2.1) (hw1.mono x2.2.1)) (by rw [at_ev_sub, he, el1]; omega)
    have x13 := x12.trans x3
    exact k _ ν1 x13.1 x13.2.1 (h.ext x13) ⟨⟨z, rfl, he.symm⟩, hw1.mono (Nat.le_trans x2.2.1 x3.2.1)⟩
  · cases e
end ATPR

end

/-! 77.main.lean.txt -/
section
/-! ===== WHAT THE LOOKER SAYS HOLDS ===== -/
theorem fl_st_h {P : am_Pg} {mi pc : Nat} {ins : Instr} {fl : fl_L} {fs : List fl_V} {m : fl_M} {c : fl_C} (e : fl_st P mi ins pc fl fs m = some c) : c.2.2.2.2.2 = m.2.2 := by
  cases ins
  all_goals first | (cases e; done) | (cases e; rfl) | skip
  all_goals (try dsimp only [fl_st] at e)
  all_goals (try unfold fl_pu at e)
  all_goals (try unfold fl_so at e)
  all_goals (try unfold fl_I at e)
  all_goals (try unfold fl_ID at e)
  all_goals (try unfold fl_J at e)
  all_goals (try unfold fl_JD at e)
  all_goals (try unfold fl_JI at e)
  all_goals (try unfold fl_br at e)
  all_goals (try unfold fl_go at e)
  all_goals (try unfold fl_gf at e)
  all_goals (try unfold fl_pf at e)
  all_goals (try unfold fl_ald at e)
  all_goals (try unfold fl_ast at e)
  all_goals (try unfold fl_lald at e)
  all_goals (try unfold fl_last at e)
  all_goals (try unfold fl_qald at e)
  all_goals (try unfold fl_len at e)
  all_goals (try unfold fl_n1 at e)
  all_goals (repeat' (first | (cases e; done) | (cases e; rfl; done) | (obtain ⟨-, e⟩ := am_bif e; cases e; rfl; done) | (obtain ⟨-, e⟩ := am_bif e; cases e; done) | split at e))
  all_goals (have hcb : ∀ (b : Bool) (u w : fl_C), u.2.2.2 = m → w.2.2.2 = m → (bif b then some u else some w) = some c → c.2.2.2.2.2 = m.2.2 := fun b u w h1 h2 e => by cases b <;> (cases e; first | rw [h1] | rw [h2]))
  all_goals exact hcb _ _ _ rfl rfl e
theorem at_jn_mem {α : Type} {l : List (Option (List α))} {q : List α} (h : at_jn l = some q) : ∀ x ∈ l, ∃ y, x = some y ∧ ∀ z ∈ y, z ∈ q := by
  induction l generalizing q with
  | nil => intro x hx; cases hx
  | cons a r ih =>
    intro x hx
    cases a with
    | none => cases h
    | some y =>
      unfold at_jn at h
      split at h
      · rename_i q' e
        cases h
        rcases List.mem_cons.mp hx with rfl | hx
        · exact ⟨y, rfl, fun z hz => List.mem_append_left _ hz⟩
        · obtain ⟨y', e1, e2⟩ := ih e x hx
          exact ⟨y', e1, fun z hz => List.mem_append_right _ (e2 z hz)⟩
      · cases h
section ATMN
variable {X : fl_M → Prop} {m0 m : fl_M} {ν ν' : Nat → Int} {S : at_S} {lv : at_L} {st : List at_V} {fl : fl_L} {fs : List fl_V} {L : Nat} {xs : Nat → Int32}
theorem at_rc_ok {h : Nat} {ins : Instr} {mj n : Nat} (hr : at_RS ν h st fs) (e : at_rc ins mj n st = true) : fl_rc (pw_P L xs) ins mj n fs = true := by
  unfold at_rc at e
  simp only [Bool.and_eq_true] at e
  obtain ⟨e1, e2, e3, e4⟩ := e
  have e1 := Nat.le_of_ble_eq_true e1
  have e2 := Nat.le_of_ble_eq_true e2
  have e3 := Nat.le_of_ble_eq_true e3
  obtain ⟨ht, hd⟩ := hr.take n
  unfold fl_rc
  simp only [Bool.and_eq_true, decide_eq_true_eq]
  refine ⟨by rw [hr.len]; exact e1, ⟨by rw [hd.sum]; exact e2, by rw [ht.sum]; exact e3⟩, ?_⟩
  have hrev := ht.rev
  split at e4
  · rfl
  · split at e4
    · rename_i q r eq
      rw [eq] at hrev
      obtain ⟨v, s', ev, ⟨p, rfl, -⟩, -⟩ := hrev.cons
      rw [ev]
    · cases e4
  · split at e4
    · rename_i q r eq
      rw [eq] at hrev
      obtain ⟨v, s', ev, ⟨p, rfl, -⟩, -⟩ := hrev.cons
      rw [ev]
      split at e4
      · rename_i cj fs0 ek
        show (match fk_kd q.1 with | .inl (cj, _) => decide (cj = am_own (pw_P L xs) mj) | _ => false) = true
        rw [ek]
        exact decide_eq_true (Nat.eq_of_beq_eq_true e4)
      · cases e4
    · cases e4
  · cases e4
theorem at_ar_LR {h : Nat} {as_ : List at_V} {vs : List fl_V} (hr : at_RS ν h as_ vs) : at_LR ν h (at_ar as_) (fl_ar vs) := by
  induction as_ generalizing vs with
  | nil => rw [hr.nil]; exact ⟨rfl, fun i a e => by simp [at_ar] at e⟩
  | cons a s ih =>
    obtain ⟨v, vs', rfl, hv, hr'⟩ := hr.cons
    obtain ⟨l1, l2⟩ := ih hr'
    unfold at_ar fl_ar
    rw [hv.cat]
    cases hc : Nat.beq (at_cat a) 2 with
    | true =>
      rw [if_pos (Nat.eq_of_beq_eq_true hc)]
      refine ⟨by simp [l1], fun i b e => ?_⟩
      match i, e with
      | 0, e => cases e; exact ⟨v, rfl, hv⟩
      | 1, e => cases e
      | i + 2, e => exact l2 i b e
    | false =>
      rw [if_neg (fun q => by rw [q] at hc; cases hc)]
      refine ⟨by simp [l1], fun i b e => ?_⟩
      match i, e with
      | 0, e => cases e; exact ⟨v, rfl, hv⟩
      | i + 1, e => exact l2 i b e
theorem at_args_LR {h n : Nat} {as_ : List at_V} {vs : List fl_V} (hr : at_RS ν h as_ vs) : at_LR ν h (at_args n as_) (fl_args n vs) := by
  obtain ⟨l1, l2⟩ := at_ar_LR hr
  unfold at_args fl_args
  refine ⟨by simp [l1], fun i b e => ?_⟩
  by_cases hi : i < (at_ar as_).length
  · rw [List.getElem?_append_left hi] at e
    obtain ⟨v, e1, e2⟩ := l2 i b e
    exact ⟨v, by rw [List.getElem?_append_left (by omega)]; exact e1, e2⟩
  · rw [List.getElem?_append_right (by omega), List.getElem?_replicate] at e
    split at e <;> cases e
theorem at_ar_mem {as_ : List at_V} {a : at_V} (h : some a ∈ at_ar as_) : a ∈ as_ := by
  induction as_ with
  | nil => simp [at_ar] at h
  | cons b s ih =>
    unfold at_ar at h
    cases hc : Nat.beq (at_cat b) 2 with
    | true =>
      rw [hc] at h
      simp only [cond_true, List.mem_cons, Option.some.injEq, reduceCtorEq, false_or] at h
      rcases h with rfl | h
      · exact List.mem_cons_self
      · exact List.mem_cons_of_mem _ (ih h)
    | false =>
      rw [hc] at h
      simp only [cond_false, List.mem_cons, Option.some.injEq] at h
      rcases h with rfl | h
      · exact List.mem_cons_self
      · exact List.mem_cons_of_mem _ (ih h)
theorem at_args_mem {n : Nat} {as_ : List at_V} {a : at_V} (h : some a ∈ at_args n as_) : a ∈ as_ := by
  unfold at_args at h
  rcases List.mem_append.mp h with h | h
  · exact at_ar_mem h
  · have := (List.mem_replicate.mp h).2
    cases this
theorem at_ret_ok {mi : Nat} {ins : Instr} {o : at_O} (h : at_G X m0 m ν S lv st fl fs) (e : at_ret mi ins S st = some o) : ∃ v, fl_rt (pw_P L xs) mi ins fs = some v ∧ o.1 = S ∧ at_RO ν m.2.2 S.1.1.length o.2 v := by
  unfold at_ret at e
  split at e
  · split at e
    · rename_i er
      cases e
      rw [h.2.2.2.1.nil]
      refine ⟨none, ?_, rfl, True.intro⟩
      show (match pw_ret mi with | none => some none | some _ => none) = _
      rw [er]
    · cases e
  · rename_i a
    obtain ⟨v, s, rfl, ⟨x, rfl, ex⟩, hw, hG⟩ := h.pop
    rw [hG.2.2.2.1.nil]
    split at e
    · rename_i er
      cases e
      refine ⟨some (.inl x), ?_, rfl, ⟨x, rfl, ex⟩, hw⟩
      show (match pw_ret mi with | some .int => some (some (Sum.inl x)) | some .boolean => if x = 0 ∨ x = 1 then some (some (Sum.inl x)) else none | _ => none) = _
      rw [er]
    · rename_i er
      obtain ⟨hb, e⟩ := am_bif e
      cases e
      obtain ⟨b1, b2⟩ := at_inR_ok h.1.1.1 hb
      rw [← ex] at b1 b2
      have hx : x = 0 ∨ x = 1 := by
        rcases (show x.toInt = 0 ∨ x.toInt = 1 by omega) with h | h
        · exact Or.inl (Int32.toInt.inj h)
        · exact Or.inr (Int32.toInt.inj h)
      refine ⟨some (.inl x), ?_, rfl, ⟨x, rfl, ex⟩, hw⟩
      show (match pw_ret mi with | some .int => some (some (Sum.inl x)) | some .boolean => if x = 0 ∨ x = 1 then some (some (Sum.inl x)) else none | _ => none) = _
      rw [er]
      show (if x = 0 ∨ x = 1 then some (some (Sum.inl x)) else none) = _
      rw [if_pos hx]
    · cases e
  · rename_i a
    obtain ⟨v, s, rfl, ⟨x, rfl, ex⟩, hw, hG⟩ := h.pop
    rw [hG.2.2.2.1.nil]
    split at e
    · rename_i er
      cases e
      refine ⟨some (.inr (.inl x)), ?_, rfl, ⟨x, rfl, ex⟩, hw⟩
      show (match pw_ret mi with | some .long => some (some (Sum.inr (Sum.inl x))) | _ => none) = _
      rw [er]
    · cases e
  · cases e
/-- what is known of a loop that is being gone through -/
def at_AcOK (X : fl_M → Prop) (m0 : fl_M) (P : am_Pg) (mi : Nat) (Q : Option fl_V → fl_M → Prop) (n : Nat) (ν : Nat → Int) (m : fl_M) (A : at_Ac) : Prop :=
  ∃ h0 P2 wr2 brk2 ν2 mF flF zsF, at_AO P2 wr2 brk2 A ∧ at_Ft X m0 h0 P2 wr2 brk2 A ν2 mF flF zsF ∧ P2.1.length ≤ n ∧ at_ag P2.1.length ν2 ν ∧ at_wf n A.2.2.2.2.2.2.2 ∧ h0 ≤ m.2.2 ∧
    ∀ m1 fl1 zs1, at_Ft X m0 h0 P2 wr2 brk2 A ν2 m1 fl1 zs1 → at_sm m1 fl1 zs1 A.2.1.2.2.2.2.2.2 ≤ at_ev ν A.2.2.2.2.2.2.2 - 1 → 1 ≤ at_ev ν A.2.2.2.2.2.2.2 → fl_Tq P mi A.1 fl1 [] m1 Q
theorem at_AcOK.mono {P : am_Pg} {mi : Nat} {Q : Option fl_V → fl_M → Prop} {n n' : Nat} {m' : fl_M} {A : at_Ac} (h : at_AcOK X m0 P mi Q n ν m A) (hag : at_ag n ν ν') (hn : n ≤ n') (hm : m.2.2 ≤ m'.2.2) : at_AcOK X m0 P mi Q n' ν' m' A := by
  obtain ⟨h0, P2, wr2, brk2, ν2, mF, flF, zsF, a1, a2, a3, a4, a5, a6, a7⟩ := h
  refine ⟨h0, P2, wr2, brk2, ν2, mF, flF, zsF, a1, a2, Nat.le_trans a3 hn, a4.trans (fun x hx => hag x (Nat.lt_of_lt_of_le hx a3)) (Nat.le_refl _), a5.mono hn, Nat.le_trans a6 hm, fun m1 fl1 zs1 h1 h2 h3 => ?_⟩
  rw [at_ev_ag hag a5] at h2 h3
  exact a7 m1 fl1 zs1 h1 h2 h3
theorem at_G.app {o : Option at_V} {v : Option fl_V} {S' : at_S} {m' : fl_M} (h : at_G X m0 m ν S lv st fl fs) (hag : at_ag S.1.1.length ν ν') (hle : S.1.1.length ≤ S'.1.1.length) (hh : m.2.2 ≤ m'.2.2) (hg : at_GS X m0 m' ν' S') (hr : at_RO ν' m'.2.2 S'.1.1.length o v) : at_G X m0 m' ν' S' lv (o.toList ++ st) fl (v.toList ++ fs) := by
  have h2 := h.mem (m' := m') hag hle hh hg
  cases o with
  | none =>
    cases v with
    | none => exact h2
    | some v => cases hr
  | some a =>
    cases v with
    | none => cases hr
    | some v => exact h2.push hr.1 hr.2
theorem at_G.drop (h : at_G X m0 m ν S lv st fl fs) (n : Nat) : at_G X m0 m ν S lv (st.drop n) fl (fs.drop n) := ⟨h.1, h.2.1, h.2.2.1, (h.2.2.2.1.take n).2, fun a ha => h.2.2.2.2 a (List.mem_of_mem_drop ha)⟩
theorem at_fj_pc {JT : List at_J} {mi pc : Nat} {k0 : Option Nat} {j : at_J} (e : at_fj JT mi pc k0 = some j) : j.1.2.1 = pc := by
  have := List.find?_some e
  simp only [Bool.and_eq_true] at this
  exact Nat.eq_of_beq_eq_true this.2.1
theorem at_ex_ok (hX : at_XX X) (CT : List at_C) (hC : ∀ c ∈ CT, at_Valid X (pw_P L xs) c) (JT : List at_J) : ∀ (f mi : Nat) (k0 : Option Nat) (pc : Nat) (hd : Bool) (S : at_S) (lv : at_L) (st : List at_V) (act : List at_Ac) (outs : List at_O), at_ex CT JT f mi k0 pc hd S lv st act = some outs → ∀ (ν : Nat → Int) (m : fl_M) (fl : fl_L) (fs : List fl_V) (Q : Option fl_V → fl_M → Prop), at_G X m0 m ν S lv st fl fs → (∀ A ∈ act, at_AcOK X m0 (pw_P L xs) mi Q S.1.1.length ν m A) →
    (∀ o ∈ outs, ∀ (ν' : Nat → Int) (m' : fl_M) (v : Option fl_V), at_ag S.1.1.length ν ν' → S.1.1.length ≤ o.1.1.1.length → at_GS X m0 m' ν' o.1 → m.2.2 ≤ m'.2.2 → at_RO ν' m'.2.2 o.1.1.1.length o.2 v → Q v m') → fl_Tq (pw_P L xs) mi pc fl fs m Q := by
  intro f
  induction f with
  | zero => intro mi k0 pc hd S lv st act outs e; cases e
  | succ f ih =>
    intro mi k0 pc hd S lv st act outs e ν m fl fs Q hG hA hO
    unfold at_ex at e
    split at e
    · cases e
    · -- back at a loop's head
      rename_i eh
      cases hb : (hd && st.isEmpty) with
      | false => rw [hb] at eh; cases eh
      | true =>
        rw [hb] at eh
        replace eh : at_head JT mi k0 pc S lv act = some (some none) := eh
        simp only [Bool.and_eq_true] at hb
        have hst := List.isEmpty_iff.mp hb.2
        subst hst
        have hfs := hG.2.2.2.1.nil
        subst hfs
        unfold at_head at eh
        split at eh
        · cases eh
        · rename_i j ej
          cases hs : at_skip S lv j with
          | true => rw [hs] at eh; cases eh
          | false =>
            rw [hs] at eh
            dsimp only [cond_false] at eh
            split at eh
            · rename_i A eA
              obtain ⟨hbk, -⟩ := am_bif eh
              have hAm := List.mem_of_find?_eq_some eA
              have hpc : A.1 = pc := Nat.eq_of_beq_eq_true (List.find?_some (p := fun A : at_Ac => Nat.beq A.1 pc) eA)
              obtain ⟨h0, P2, wr2, brk2, ν2, mF, flF, zsF, a1, a2, a3, a4, a5, a6, a7⟩ := hA A hAm
              obtain ⟨zs, b1, b2, b3⟩ := at_back_ok a1 a2 a4 hG a6 hbk
              rw [← hpc]
              exact a7 m fl zs b1 b2 b3
            · split at eh <;> cases eh
    · -- into a loop
      rename_i SJ lvJ A eh
      cases hb : (hd && st.isEmpty) with
      | false => rw [hb] at eh; cases eh
      | true =>
        rw [hb] at eh
        replace eh : at_head JT mi k0 pc S lv act = some (some (some (SJ, lvJ, A))) := eh
        simp only [Bool.and_eq_true] at hb
        have hst := List.isEmpty_iff.mp hb.2
        subst hst
        have hfs := hG.2.2.2.1.nil
        subst hfs
        unfold at_head at eh
        split at eh
        · cases eh
        · rename_i j ej
          cases hs : at_skip S lv j with
          | true => rw [hs] at eh; cases eh
          | false =>
            rw [hs] at eh
            dsimp only [cond_false] at eh
            split at eh
            · obtain ⟨-, eh⟩ := am_bif eh
              cases eh
            · split at eh
              · rename_i x ex
                cases eh
                obtain ⟨P2, wr2, brk2, ν2, zs, ag2, le2, hAO, hF, hpc, rfl, rfl⟩ := at_enter_ok hG ex
                have hpc2 : A.1 = pc := hpc.trans (at_fj_pc ej)
                have key : ∀ (k : Nat) (m1 : fl_M) (fl1 : fl_L) (zs1 : List Int), at_Ft X m0 m.2.2 P2 wr2 brk2 A ν2 m1 fl1 zs1 → (at_sm m1 fl1 zs1 A.2.1.2.2.2.2.2.2).toNat ≤ k → fl_Tq (pw_P L xs) mi pc fl1 [] m1 Q := by
                  intro k
                  induction k with
                  | zero =>
                    intro m1 fl1 zs1 hF1 hk
                    obtain ⟨νJ, agJ, leJ, GJ, wJ, eJ⟩ := at_fit_ok hAO hF1
                    have agS := ag2.trans agJ le2
                    refine ih mi k0 pc false _ _ [] (A :: act) outs e νJ m1 fl1 [] Q GJ (fun B hB => ?_) (fun o ho ν' m' v q1 q2 q3 q4 q5 => hO o ho ν' m' v (agS.trans q1 (Nat.le_trans le2 leJ)) (Nat.le_trans (Nat.le_trans le2 leJ) q2) q3 (Nat.le_trans hF1.1 q4) q5)
                    rcases List.mem_cons.mp hB with rfl | hB
                    · refine ⟨m.2.2, P2, wr2, brk2, ν2, m1, fl1, zs1, hAO, hF1, leJ, agJ, wJ, hF1.1, fun m2 fl2 zs2 _ _ h3 => ?_⟩
                      rw [eJ] at h3
                      omega
                    · exact (hA B hB).mono agS (Nat.le_trans le2 leJ) hF1.1
                  | succ k ihk =>
                    intro m1 fl1 zs1 hF1 hk
                    obtain ⟨νJ, agJ, leJ, GJ, wJ, eJ⟩ := at_fit_ok hAO hF1
                    have agS := ag2.trans agJ le2
                    refine ih mi k0 pc false _ _ [] (A :: act) outs e νJ m1 fl1 [] Q GJ (fun B hB => ?_) (fun o ho ν' m' v q1 q2 q3 q4 q5 => hO o ho ν' m' v (agS.trans q1 (Nat.le_trans le2 leJ)) (Nat.le_trans (Nat.le_trans le2 leJ) q2) q3 (Nat.le_trans hF1.1 q4) q5)
                    rcases List.mem_cons.mp hB with rfl | hB
                    · refine ⟨m.2.2, P2, wr2, brk2, ν2, m1, fl1, zs1, hAO, hF1, leJ, agJ, wJ, hF1.1, fun m2 fl2 zs2 hF2 h2 h3 => ?_⟩
                      rw [eJ] at h2 h3
                      rw [hpc2]
                      exact ihk m2 fl2 zs2 hF2 (by omega)
                    · exact (hA B hB).mono agS (Nat.le_trans le2 leJ) hF1.1
                exact key _ m fl zs hF (Nat.le_refl _)
              · cases eh
    · -- an instruction
      split at e
      · cases e
      · rename_i ins ei
        have hok := hG.2.2.2.1.ok
        split at e
        · -- a call
          rename_i mj n ecl
          obtain ⟨hrc, e⟩ := am_bif e
          have hargs : at_RS ν m.2.2 (st.take n).reverse (fs.take n).reverse := (hG.2.2.2.1.take n).1.rev
          have hwa : ∀ a ∈ (st.take n).reverse, at_wV S.1.1.length a := fun a ha => hG.2.2.2.2 a (List.mem_of_mem_take (List.mem_reverse.mp ha))
          have hGd := hG.drop n
          refine fl_Tq.cal (ins := ins) (mj := mj) (n := n) ei ecl hok (at_rc_ok hG.2.2.2.1 hrc) ?_
          split at e
          · cases e
          · rename_i o eo
            have hgo : ∀ (v : Option fl_V) (ν' : Nat → Int) (m' : fl_M), at_ag S.1.1.length ν ν' → S.1.1.length ≤ o.1.1.1.length → m.2.2 ≤ m'.2.2 → at_GS X m0 m' ν' o.1 → at_RO ν' m'.2.2 o.1.1.1.length o.2 v → fl_Tq (pw_P L xs) mi (pc + 3) fl (v.toList ++ fs.drop n) m' Q := by
              intro v ν' m' q1 q2 q3 q4 q5
              exact ih mi k0 (pc + 3) true o.1 lv (o.2.toList ++ st.drop n) act outs e ν' m' fl (v.toList ++ fs.drop n) Q (hGd.app q1 q2 q3 q4 q5) (fun A hAm => (hA A hAm).mono q1 q2 q3) (fun o' ho' ν'' m'' v' r1 r2 r3 r4 r5 => hO o' ho' ν'' m'' v' (q1.trans r1 q2) (Nat.le_trans q2 r2) r3 (Nat.le_trans q3 r4) r5)
            unfold at_call at eo
            split at eo
            · rename_i o' eo'
              cases eo
              exact at_prim_ok hG.1 hargs hwa eo' (fun v ν' q1 q2 q3 q4 => hgo v ν' m q1 q2 (Nat.le_refl _) q3 q4)
            · split at eo
              · rename_i c ec
                have eo := Option.some.inj eo
                have hcm := List.mem_of_find?_eq_some ec
                have hcp := List.find?_some ec
                simp only [Bool.and_eq_true] at hcp
                have hmj := Nat.eq_of_beq_eq_true hcp.1
                obtain ⟨u1, u2, u3, u4⟩ := at_use_ok hG.1 hargs hwa hcp.2 eo
                have hv := hC c hcm m _ u1 u2 u3
                rw [hmj] at hv
                refine hv.mono (fun v m' hpost => ?_)
                obtain ⟨ν', r1, r2, r3, r4⟩ := u4 m' v hpost.1 hpost.2.1 hpost.2.2
                exact hgo v ν' m' r1 r2 hpost.2.1.1 r3 r4
              · cases eo
          · split at e
            · cases e
            · rename_i outs1 e1
              have hGc : at_G X m0 m ν S (at_args (pw_mxl mj) (st.take n).reverse) [] (fl_args (am_mxl (pw_P L xs) mj) (fs.take n).reverse) [] := ⟨hG.1, at_args_LR hargs, fun a ha => hwa a (at_args_mem ha), True.intro, fun a ha => by cases ha⟩
              refine ih mj _ 0 true S _ [] [] outs1 e1 ν m _ [] _ hGc (fun A hA => by cases hA) (fun o ho ν' m' v q1 q2 q3 q4 q5 => ?_)
              obtain ⟨y, ey, hy⟩ := at_jn_mem e _ (List.mem_map.mpr ⟨o, ho, rfl⟩)
              exact ih mi k0 (pc + 3) true o.1 lv (o.2.toList ++ st.drop n) act y ey ν' m' fl (v.toList ++ fs.drop n) Q (hGd.app q1 q2 q4 q3 q5) (fun A hAm => (hA A hAm).mono q1 q2 q4) (fun o' ho' ν'' m'' v' r1 r2 r3 r4 r5 => hO o' (hy o' ho') ν'' m'' v' (q1.trans r1 q2) (Nat.le_trans q2 r2) r3 (Nat.le_trans q4 r4) r5)
        · rename_i ecl
          split at e
          · -- an answer
            rename_i o eo
            cases e
            obtain ⟨v, e1, e2, e3⟩ := at_ret_ok (L := L) (xs := xs) hG eo
            refine fl_Tq.ret (ins := ins) ei ecl e1 (hO o List.mem_cons_self ν m v at_ag.rfl (by rw [e2]; exact Nat.le_refl _) (by rw [e2]; exact hG.1) (Nat.le_refl _) (by rw [e2]; exact e3))
          · split at e
            · cases e
            · rename_i alts ea
              obtain ⟨c, e1, a, ha, ν', h1, h2, h3, h4⟩ := at_st_ok (L := L) (xs := xs) hX hG ea
              obtain ⟨pc', fl', fs', m'⟩ := c
              have hh := fl_st_h e1
              dsimp only at hh h1 h4
              refine fl_Tq.stp (ins := ins) ei ecl hok e1 ?_
              obtain ⟨y, ey, hy⟩ := at_jn_mem e _ (List.mem_map.mpr ⟨a, ha, rfl⟩)
              rw [← h1]
              have hmm : m.2.2 ≤ m'.2.2 := Nat.le_of_eq hh.symm
              exact ih mi k0 a.1 true a.2.1 a.2.2.1 a.2.2.2 act y ey ν' m' fl' fs' Q h4 (fun A hAm => (hA A hAm).mono h2 h3 hmm) (fun o' ho' ν'' m'' v' r1 r2 r3 r4 r5 => hO o' (hy o' ho') ν'' m'' v' (h2.trans r1 h3) (Nat.le_trans h3 r2) r3 (Nat.le_trans hmm r4) r5)
end ATMN

end

/-! 78.chk.lean.txt -/
section
/-! ===== a contract that the looker passes holds ===== -/
section ATCH
variable {X : fl_M → Prop} {m0 m : fl_M} {ν ν' : Nat → Int} {S : at_S} {L : Nat} {xs : Nat → Int32}
theorem at_sta_ok {h : Nat} (hh : h ≤ 1000) : ∀ (ks : List at_K) (vs : List fl_V) (P : at_P) (ν : Nat → Int), at_KP ν P → at_agk h ks vs → ∃ ν', at_X ν P ν' (at_sta ks P).1 ∧ at_RS ν' h (at_sta ks P).2 vs ∧ ∀ a ∈ (at_sta ks P).2, at_wV (at_sta ks P).1.1.length a := by
  intro ks
  induction ks with
  | nil =>
    intro vs P ν hP hk
    cases vs with
    | nil => exact ⟨ν, at_X.rfl hP, True.intro, fun a ha => by cases ha⟩
    | cons v s => cases hk
  | cons k r ih =>
    intro vs P ν hP hk
    have lift : ∀ (P1 : at_P) (ν1 : Nat → Int) (a : at_V) (v : fl_V) (s : List fl_V), at_X ν P ν1 P1 → at_RV ν1 h a v → at_wV P1.1.length a → at_agk h r s → ∃ ν', at_X ν P ν' (at_sta r P1).1 ∧ at_RS ν' h (a :: (at_sta r P1).2) (v :: s) ∧ ∀ b ∈ a :: (at_sta r P1).2, at_wV (at_sta r P1).1.1.length b := by
      intro P1 ν1 a v s hx hv hw hs
      obtain ⟨ν2, hx2, hr2, hw2⟩ := ih s P1 ν1 hx.2.2 hs
      refine ⟨ν2, hx.trans hx2, ⟨hv.ag hw hx2.1 (Nat.le_refl _), hr2⟩, fun b hb => ?_⟩
      rcases List.mem_cons.mp hb with rfl | hb
      · exact hw.mono hx2.2.1
      · exact hw2 b hb
    rcases k with ⟨τ, po⟩ | ⟨b, lo, hi⟩
    · cases vs with
      | nil => cases hk
      | cons v s =>
        obtain ⟨⟨p, rfl, e1, e2, e3⟩, hs⟩ := hk
        cases po with
        | some q =>
          have := e3 q rfl
          subst this
          exact lift P ν (.inr (.inr (.inl (τ, at_c p)))) _ s (at_X.rfl hP) ⟨p, rfl, at_ev_c _ _, e1, e2⟩ at_wf_c hs
        | none =>
          have hp : p ≤ 1000000 := by unfold fl_N at e2; omega
          obtain ⟨ν1, hx, hw1, he⟩ := at_new_X hP (lo := 0) (hi := 1000000) (x := p) (by omega) (by omega)
          exact lift (at_new P 0 1000000) ν1 (.inr (.inr (.inl (τ, at_nv P)))) _ s hx ⟨p, rfl, he, e1, e2⟩ hw1 hs
    · cases b with
      | false =>
        cases vs with
        | nil => cases hk
        | cons v s =>
          obtain ⟨⟨x, rfl, x1, x2⟩, hs⟩ := hk
          obtain ⟨ν1, hx, hw1, he⟩ := at_new_X hP x1 x2
          exact lift (at_new P lo hi) ν1 (.inl (at_nv P)) _ s hx ⟨x, rfl, he.symm⟩ hw1 hs
      | true =>
        cases vs with
        | nil => cases hk
        | cons v s =>
          obtain ⟨⟨x, rfl, x1, x2⟩, hs⟩ := hk
          obtain ⟨ν1, hx, hw1, he⟩ := at_new_X hP x1 x2
          exact lift (at_new P lo hi) ν1 (.inr (.inl (at_nv P))) _ s hx ⟨x, rfl, he.symm⟩ hw1 hs
theorem at_stl_ok {as_ : List at_V} {vs : List fl_V} : ∀ (lt : List (Nat × Int)) (S : at_S) (ν : Nat → Int) (S' : at_S), at_GS X m0 m ν S → at_RS ν m.2.2 as_ vs → (∀ a ∈ as_, at_wV S.1.1.length a) → (∀ q ∈ lt, at_ltc m vs q) → at_stl as_ lt S = some S' → ∃ ν', at_ag S.1.1.length ν ν' ∧ S.1.1.length ≤ S'.1.1.length ∧ at_GS X m0 m ν' S' := by
  intro lt
  induction lt with
  | nil => intro S ν S' h _ _ _ e; cases e; exact ⟨ν, at_ag.rfl, Nat.le_refl _, h⟩
  | cons q r ih =>
    intro S ν S' h hr hw hq e
    unfold at_stl at e
    split at e
    · rename_i a ea
      obtain ⟨v, ev, x, rfl, ex⟩ := hr.get ea
      obtain ⟨x', ev', hx'⟩ := hq q List.mem_cons_self
      rw [ev] at ev'
      cases ev'
      obtain ⟨ν1, ag1, le1, g1, w1, e1, same1⟩ := at_cs_ok h
      have wa : at_wf S.1.1.length a := hw (.inl a) (List.mem_of_getElem? ea)
      dsimp only at e
      obtain ⟨P', eP, xP, lP⟩ := at_as_X g1.1 (a := at_add (at_sub a (at_cs S).2) (at_c (q.2 + 1))) (at_wf_add (at_wf_sub (wa.mono le1) w1) at_wf_c) (by
        rw [at_ev_add, at_ev_sub, at_ev_c, at_ev_ag ag1 wa, e1, ← ex]
        omega)
      rw [eP] at e
      have g2 := g1.ext xP
      obtain ⟨ν2, ag2, le2, g3⟩ := ih (P', (at_cs S).1.2) ν1 S' g2 (hr.ag hw ag1 (Nat.le_refl _)) (fun b hb => (hw b hb).mono (Nat.le_trans le1 xP.2.1)) (fun q hq' => hq q (List.mem_cons_of_mem _ hq')) e
      exact ⟨ν2, ag1.trans ag2 (by show S.1.1.length ≤ P'.1.length; omega), by have : P'.1.length ≤ S'.1.1.length := le2; omega, g3⟩
    · cases e
theorem at_chk_ok (hX : at_XX X) (hX4 : ∀ m, X m → m.2.2 ≤ 1000) {CT : List at_C} (hC : ∀ c ∈ CT, at_Valid X (pw_P L xs) c) {JT : List at_J} {f : Nat} {c : at_C} (e : at_chk CT JT f c = true) : at_Valid X (pw_P L xs) c := by
  intro m vs hg hk hl
  unfold at_chk at e
  have h0 : at_KP (fun _ => 0) (([], [], []) : at_P) := ⟨⟨fun x => (by simp [at_bd]), fun c hc => (by cases hc), fun c hc => (by cases hc)⟩, fun c hc => (by cases hc), fun c hc => (by cases hc)⟩
  obtain ⟨ν1, hx, hr, hw⟩ := at_sta_ok (hX4 m hg.2.2) c.2.1 vs ([], [], []) _ h0 hk
  generalize at_sta c.2.1 ([], [], []) = z at hx hr hw e
  dsimp only at e
  split at e
  · rename_i S eS
    have g1 : at_GS X m m ν1 (z.1, [], [], []) := ⟨hx.2.2, fun f hf => (by cases hf), fun b hb => (by cases hb), hg.1, hg.RL _, hg.2.2, Nat.le_refl _, fun p j hne => absurd rfl hne⟩
    obtain ⟨ν2, ag2, le2, g2⟩ := at_stl_ok c.2.2.1 _ ν1 S g1 hr hw hl eS
    split at e
    · rename_i outs eo
      have hr2 := hr.ag hw ag2 (Nat.le_refl m.2.2)
      have hw2 : ∀ a ∈ z.2, at_wV S.1.1.length a := fun a ha => (hw a ha).mono le2
      have hG : at_G X m m ν2 S (at_args (pw_mxl c.1) z.2) [] (fl_args (am_mxl (pw_P L xs) c.1) vs) [] := ⟨g2, at_args_LR hr2, fun a ha => hw2 a (at_args_mem ha), True.intro, fun a ha => by cases ha⟩
      refine at_ex_ok hX CT hC JT f c.1 _ 0 true S _ [] [] outs eo ν2 m _ [] _ hG (fun A hA => by cases hA) (fun o ho ν' m' v q1 q2 q3 q4 q5 => ?_)
      have hk := List.all_eq_true.mp e o ho
      unfold at_oko at hk
      simp only [Bool.and_eq_true] at hk
      obtain ⟨k1, k2, k3⟩ := hk
      refine ⟨q3.good k1, ⟨q3.2.2.2.2.2.2.1, fun p j hne => ?_⟩, ?_⟩
      · obtain ⟨w, hw', hcv⟩ := q3.2.2.2.2.2.2.2 p j hne
        obtain ⟨w', hw'', ecv⟩ := List.any_eq_true.mp (List.all_eq_true.mp k2 w hw')
        exact ⟨w', hw'', at_cvW_ok ecv hcv⟩
      · unfold at_rtc
        split at k3
        · rename_i er eo2
          rw [er]
          rw [eo2] at q5
          cases v with
          | none => rfl
          | some v => cases q5
        · rename_i lo hi a er eo2
          rw [er]
          rw [eo2] at q5
          simp only [Bool.and_eq_true, Bool.or_eq_true, Bool.not_eq_true'] at k3
          obtain ⟨r1, r2⟩ := k3
          cases v with
          | none => cases q5
          | some v =>
            obtain ⟨⟨x, rfl, ex⟩, wa⟩ := q5
            obtain ⟨i1, i2⟩ := at_inR_ok q3.1.1 r1
            refine ⟨x, rfl, by omega, by omega, fun hlt => ?_⟩
            rcases r2 with r2 | r2
            · rw [hlt] at r2; cases r2
            · obtain ⟨ν3, ag3, le3, g3, w3, e3, -⟩ := at_cs_ok q3
              have := at_le_ok g3.1.1 r2
              have wa : at_wf o.1.1.1.length a := wa
              rw [at_ev_add, at_ev_sub, at_ev_c, at_ev_ag ag3 wa, e3] at this
              omega
        · rename_i lo hi a er eo2
          rw [er]
          rw [eo2] at q5
          simp only [Bool.and_eq_true, Bool.not_eq_true'] at k3
          obtain ⟨r1, r2⟩ := k3
          cases v with
          | none => cases q5
          | some v =>
            obtain ⟨⟨x, rfl, ex⟩, wa⟩ := q5
            obtain ⟨i1, i2⟩ := at_inR_ok q3.1.1 r1
            exact ⟨x, rfl, by omega, by omega, fun hlt => by rw [r2] at hlt; cases hlt⟩
        · cases k3
    · cases e
  · cases e
theorem at_all_ok (hX : at_XX X) (hX4 : ∀ m, X m → m.2.2 ≤ 1000) {JT : List at_J} {f : Nat} : ∀ (cs CT : List at_C), (∀ c ∈ CT, at_Valid X (pw_P L xs) c) → at_all CT JT f cs = true → ∀ c ∈ cs, at_Valid X (pw_P L xs) c := by
  intro cs
  induction cs with
  | nil => intro CT _ _ c hc; cases hc
  | cons d r ih =>
    intro CT hC e c hc
    unfold at_all at e
    simp only [Bool.and_eq_true] at e
    have hd := at_chk_ok hX hX4 hC e.1
    rcases List.mem_cons.mp hc with rfl | hc
    · exact hd
    · refine ih (CT ++ [d]) (fun c' hc' => ?_) e.2 c hc
      rcases List.mem_append.mp hc' with h | h
      · exact hC c' h
      · rw [List.mem_singleton.mp h]; exact hd
end ATCH

end

/-! 79.00.look.lean.txt -/
section
/-! ===== the looker passes contracts 176 .. 197, one by one ===== -/
def at_dC : at_C := (0, [], [], none, false, [])
set_option maxRecDepth 1000000 in
theorem lk_t176 : at_chk [at_q175] [at_jt29] 4000 at_q176 = true := by decide +kernel
set_option maxRecDepth 1000000 in
theorem lk_t177 : at_chk [at_q175] [at_jt28] 4000 at_q177 = true := by decide +kernel
set_option maxRecDepth 1000000 in
theorem lk_t178 : at_chk [at_q173, at_q175, at_q176, at_q177] [] 4000 at_q178 = true := by decide +kernel
set_option maxRecDepth 1000000 in
theorem lk_t179 : at_chk [at_qm5] [at_jt30, at_jt31, at_jt32] 4000 at_q179 = true := by decide +kernel
set_option maxRecDepth 1000000 in
theorem lk_t180 : at_chk [at_q165] [] 4000 at_q180 = true := by decide +kernel
set_option maxRecDepth 1000000 in
theorem lk_t181 : at_chk [at_q165] [at_jt24] 4000 at_q181 = true := by decide +kernel
set_option maxRecDepth 1000000 in
theorem lk_t182 : at_chk [] [at_jt33] 4000 at_q182 = true := by decide +kernel
set_option maxRecDepth 1000000 in
theorem lk_t183 : at_chk [at_q165, at_q181, at_q182] [at_jt35, at_jt36] 4000 at_q183 = true := by decide +kernel
set_option maxRecDepth 1000000 in
theorem lk_t184 : at_chk [at_q180, at_q183] [at_jt37] 4000 at_q184 = true := by decide +kernel
set_option maxRecDepth 1000000 in
theorem lk_t185 : at_chk [at_q165, at_q170] [at_jt23] 4000 at_q185 = true := by decide +kernel
set_option maxRecDepth 1000000 in
theorem lk_t186 : at_chk [at_q170] [at_jt38] 4000 at_q186 = true := by decide +kernel
set_option maxRecDepth 1000000 in
theorem lk_t187 : at_chk [at_q165, at_q170, at_q173, at_q185, at_q186] [at_jt39, at_jt40] 4000 at_q187 = true := by decide +kernel
set_option maxRecDepth 1000000 in
theorem lk_t188 : at_chk [] [at_jt43] 4000 at_q188 = true := by decide +kernel
set_option maxRecDepth 1000000 in
theorem lk_t189 : at_chk [at_q165, at_q170] [at_jt42] 4000 at_q189 = true := by decide +kernel
set_option maxRecDepth 1000000 in
theorem lk_t190 : at_chk [at_q165, at_q181] [at_jt25] 4000 at_q190 = true := by decide +kernel
set_option maxRecDepth 1000000 in
theorem lk_t191 : at_chk [at_q189, at_q190] [] 4000 at_q191 = true := by decide +kernel
set_option maxRecDepth 1000000 in
theorem lk_t192 : at_chk [at_q172, at_q188, at_q189, at_q191] [at_jt44, at_jt45] 4000 at_q192 = true := by decide +kernel
set_option maxRecDepth 1000000 in
theorem lk_t193 : at_chk [] [at_jt46, at_jt47] 4000 at_q193 = true := by decide +kernel
set_option maxRecDepth 1000000 in
theorem lk_t194 : at_chk [at_q165, at_q193] [at_jt46] 4000 at_q194 = true := by decide +kernel
set_option maxRecDepth 1000000 in
theorem lk_t195 : at_chk [at_q165, at_q170, at_q185, at_q190, at_q194] [at_jt48, at_jt49] 4000 at_q195 = true := by decide +kernel
set_option maxRecDepth 1000000 in
theorem lk_t196 : at_chk [at_q165, at_q170] [at_jt41] 4000 at_q196 = true := by decide +kernel
set_option maxRecDepth 1000000 in
theorem lk_t197 : at_chk [at_q172, at_q185] [] 4000 at_q197 = true := by decide +kernel

end

/-! 79.01.look.lean.txt -/
section
/-! ===== the looker passes contracts 198 .. 219, one by one ===== -/
set_option maxRecDepth 1000000 in
theorem lk_t198 : at_chk [at_q197] [at_jt50] 4000 at_q198 = true := by decide +kernel
set_option maxRecDepth 1000000 in
theorem lk_t199 : at_chk [at_q174, at_q178, at_q179, at_q184, at_q187, at_q192, at_q195, at_q196, at_q198] [] 4000 at_q199 = true := by decide +kernel
set_option maxRecDepth 1000000 in
theorem lk_t200 : at_chk [at_q199] [at_jt52] 4000 at_q200 = true := by decide +kernel
set_option maxRecDepth 1000000 in
theorem lk_t201 : at_chk [at_qm4, at_q200] [] 4000 at_q201 = true := by decide +kernel
set_option maxRecDepth 1000000 in
theorem lk_t202 : at_chk [at_qm4] [] 4000 at_q202 = true := by decide +kernel
set_option maxRecDepth 1000000 in
theorem lk_t203 : at_chk [at_qm4] [] 4000 at_q203 = true := by decide +kernel
set_option maxRecDepth 1000000 in
theorem lk_t204 : at_chk [] [] 4000 at_q204 = true := by decide +kernel
set_option maxRecDepth 1000000 in
theorem lk_t205 : at_chk [at_qm4, at_q204] [] 4000 at_q205 = true := by decide +kernel
set_option maxRecDepth 1000000 in
theorem lk_t206 : at_chk [at_qm4] [] 4000 at_q206 = true := by decide +kernel
set_option maxRecDepth 1000000 in
theorem lk_t207 : at_chk [at_qm4] [] 4000 at_q207 = true := by decide +kernel
set_option maxRecDepth 1000000 in
theorem lk_t208 : at_chk [at_qm4, at_q165] [at_jt53] 4000 at_q208 = true := by decide +kernel
set_option maxRecDepth 1000000 in
theorem lk_t209 : at_chk [at_qm4] [] 4000 at_q209 = true := by decide +kernel
set_option maxRecDepth 1000000 in
theorem lk_t210 : at_chk [at_qm4] [] 4000 at_q210 = true := by decide +kernel
set_option maxRecDepth 1000000 in
theorem lk_t211 : at_chk [at_qm4] [] 4000 at_q211 = true := by decide +kernel
set_option maxRecDepth 1000000 in
theorem lk_t212 : at_chk [at_qm4] [] 4000 at_q212 = true := by decide +kernel
set_option maxRecDepth 1000000 in
theorem lk_t213 : at_chk [at_qm4] [at_jt54] 4000 at_q213 = true := by decide +kernel
set_option maxRecDepth 1000000 in
theorem lk_t214 : at_chk [at_qm4] [at_jt54] 4000 at_q214 = true := by decide +kernel
set_option maxRecDepth 1000000 in
theorem lk_t215 : at_chk [] [at_jt55] 4000 at_q215 = true := by decide +kernel
set_option maxRecDepth 1000000 in
theorem lk_t216 : at_chk [at_q199] [at_jt56, at_jt57] 4000 at_q216 = true := by decide +kernel
set_option maxRecDepth 1000000 in
theorem lk_t217 : at_chk [at_qm4, at_q215, at_q216] [] 4000 at_q217 = true := by decide +kernel
set_option maxRecDepth 1000000 in
theorem lk_t218 : at_chk [] [] 4000 at_q218 = true := by decide +kernel
set_option maxRecDepth 1000000 in
theorem lk_t219 : at_chk [at_q165, at_q170] [] 4000 at_q219 = true := by decide +kernel

end
