/-! ===== loops: their shape over numbers ===== -/
/-- a template over the machine's own values -/
def at_smt (m : fl_M) (fl : fl_L) (zs : List Int) (t : Int × Nat × Nat) : Int := match t.2.1 with
  | 0 => (match fl[t.2.2]? with
    | some (some (.inl x)) => t.1 * x.toInt
    | some (some (.inr (.inl x))) => t.1 * x.toInt
    | _ => 0)
  | 1 => t.1 * zs.getD t.2.2 0
  | _ => t.1 * at_w m 2
def at_sml (m : fl_M) (fl : fl_L) (zs : List Int) : List (Int × Nat × Nat) → Int
  | [] => 0
  | t :: r => at_smt m fl zs t + at_sml m fl zs r
def at_sm (m : fl_M) (fl : fl_L) (zs : List Int) (t : at_T) : Int := at_sml m fl zs t.2 + t.1
/-- names that stand for numbers -/
def at_vz (ν : Nat → Int) (n : Nat) : List at_A → List Int → Prop
  | [], [] => True
  | a :: r, z :: s => at_wf n a ∧ at_ev ν a = z ∧ at_vz ν n r s
  | _, _ => False
theorem at_vz.get {ν : Nat → Int} {n : Nat} {as_ : List at_A} {zs : List Int} (h : at_vz ν n as_ zs) {k : Nat} {a : at_A} (e : as_[k]? = some a) : at_wf n a ∧ at_ev ν a = zs.getD k 0 := by
  induction as_ generalizing zs k with
  | nil => simp at e
  | cons b r ih =>
    cases zs with
    | nil => cases h
    | cons z s =>
      obtain ⟨h1, h2, h3⟩ := h
      cases k with
      | zero => cases e; exact ⟨h1, h2⟩
      | succ k => exact ih h3 e
theorem at_vz.ag {ν ν' : Nat → Int} {n k : Nat} {as_ : List at_A} {zs : List Int} (h : at_vz ν n as_ zs) (hag : at_ag n ν ν') (hk : n ≤ k) : at_vz ν' k as_ zs := by
  induction as_ generalizing zs with
  | nil => cases zs with
    | nil => exact True.intro
    | cons z s => cases h
  | cons b r ih =>
    cases zs with
    | nil => cases h
    | cons z s =>
      obtain ⟨h1, h2, h3⟩ := h
      exact ⟨h1.mono hk, by rw [at_ev_ag hag h1]; exact h2, ih h3⟩
section ATLP
variable {m : fl_M} {ν ν' : Nat → Int} {n h : Nat} {lv : at_L} {fl : fl_L} {bv : List at_A} {zs : List Int} {nn : Option at_A}
theorem at_tmt_ok (hl : at_LR ν h lv fl) (hw : ∀ a, some a ∈ lv → at_wV n a) (hb : at_vz ν n bv zs) (hn : ∀ a, nn = some a → at_wf n a ∧ at_ev ν a = at_w m 2) {t : Int × Nat × Nat} {a : at_A} (e : at_tmt lv bv nn t = some a) : at_wf n a ∧ at_ev ν a = at_smt m fl zs t := by
  obtain ⟨k, tg, i⟩ := t
  match tg, e with
  | 0, e =>
    replace e : (match lv[i]? with
      | some (some (.inl a)) => some (at_mul k a)
      | some (some (.inr (.inl a))) => some (at_mul k a)
      | _ => none) = some a := e
    show _ ∧ _ = (match fl[i]? with
      | some (some (.inl x)) => k * x.toInt
      | some (some (.inr (.inl x))) => k * x.toInt
      | _ => 0)
    split at e
    · rename_i b eb
      cases e
      obtain ⟨v, e1, x, rfl, ex⟩ := hl.2 i _ eb
      rw [e1]
      refine ⟨at_wf_mul (hw _ (List.mem_of_getElem? eb)), ?_⟩
      rw [at_ev_mul, ← ex]
    · rename_i b eb
      cases e
      obtain ⟨v, e1, x, rfl, ex⟩ := hl.2 i _ eb
      rw [e1]
      refine ⟨at_wf_mul (hw _ (List.mem_of_getElem? eb)), ?_⟩
      rw [at_ev_mul, ← ex]
    · cases e
  | 1, e =>
    replace e : (match bv[i]? with
      | some a => some (at_mul k a)
      | none => none) = some a := e
    show _ ∧ _ = k * zs.getD i 0
    split at e
    · rename_i b eb
      cases e
      obtain ⟨q1, q2⟩ := hb.get eb
      exact ⟨at_wf_mul q1, by rw [at_ev_mul, q2]⟩
    · cases e
  | tg + 2, e =>
    show _ ∧ _ = k * at_w m 2
    cases nn with
    | none =>
      have e : (none : Option at_A) = some a := e
      cases e
    | some b =>
      have e : some (at_mul k b) = some a := e
      cases e
      obtain ⟨q1, q2⟩ := hn b rfl
      exact ⟨at_wf_mul q1, by rw [at_ev_mul, q2]⟩
theorem at_tml_ok (hl : at_LR ν h lv fl) (hw : ∀ a, some a ∈ lv → at_wV n a) (hb : at_vz ν n bv zs) (hn : ∀ a, nn = some a → at_wf n a ∧ at_ev ν a = at_w m 2) {l : List (Int × Nat × Nat)} {a : at_A} (e : at_tml lv bv nn l = some a) : at_wf n a ∧ at_ev ν a = at_sml m fl zs l := by
  induction l generalizing a with
  | nil => cases e; exact ⟨at_wf_c, at_ev_c _ _⟩
  | cons t r ih =>
    unfold at_tml at e
    split at e
    · rename_i b c eb ec
      cases e
      obtain ⟨b1, b2⟩ := at_tmt_ok hl hw hb hn eb
      obtain ⟨c1, c2⟩ := ih ec
      exact ⟨at_wf_add b1 c1, by rw [at_ev_add, b2, c2]; rfl⟩
    · cases e
theorem at_tm_ok (hl : at_LR ν h lv fl) (hw : ∀ a, some a ∈ lv → at_wV n a) (hb : at_vz ν n bv zs) (hn : ∀ a, nn = some a → at_wf n a ∧ at_ev ν a = at_w m 2) {t : at_T} {a : at_A} (e : at_tm lv bv nn t = some a) : at_wf n a ∧ at_ev ν a = at_sm m fl zs t := by
  unfold at_tm at e
  split at e
  · rename_i b eb
    cases e
    obtain ⟨b1, b2⟩ := at_tml_ok hl hw hb hn eb
    exact ⟨at_wf_add b1 at_wf_c, by rw [at_ev_add, at_ev_c, b2]; rfl⟩
  · cases e
/-- the locals that change have values in their ranges -/
def at_hz (fl : fl_L) (q : Nat × Option (Bool × Int × Int)) : Prop := match q.2 with
  | none => True
  | some (false, lo, hi) => ∃ x : Int32, fl[q.1]? = some (some (.inl x)) ∧ lo ≤ x.toInt ∧ x.toInt ≤ hi
  | some (true, lo, hi) => ∃ x : Int64, fl[q.1]? = some (some (.inr (.inl x))) ∧ lo ≤ x.toInt ∧ x.toInt ≤ hi
theorem at_set_LR {a : at_V} {v : fl_V} {i : Nat} (hl : at_LR ν h lv fl) (e : fl[i]? = some (some v)) (hv : at_RV ν h a v) : at_LR ν h (lv.set i (some a)) fl := by
  refine ⟨by rw [List.length_set]; exact hl.1, fun j b eb => ?_⟩
  rcases at_set_get eb with ⟨rfl, h2, -⟩ | ⟨-, h2⟩
  · cases h2
    exact ⟨v, e, hv⟩
  · exact hl.2 j b h2
theorem at_set_none {i : Nat} (hl : at_LR ν h lv fl) : at_LR ν h (lv.set i none) fl := by
  refine ⟨by rw [List.length_set]; exact hl.1, fun j b eb => ?_⟩
  rcases at_set_get eb with ⟨-, h2, -⟩ | ⟨-, h2⟩
  · cases h2
  · exact hl.2 j b h2
theorem at_set_mem {i : Nat} {o : Option at_V} {b : at_V} (hb : some b ∈ lv.set i o) : o = some b ∨ some b ∈ lv := by
  obtain ⟨j, e⟩ := List.getElem?_of_mem hb
  rcases at_set_get e with ⟨-, h2, -⟩ | ⟨-, h2⟩
  · exact Or.inl h2
  · exact Or.inr (List.mem_of_getElem? h2)
theorem at_hv_ok : ∀ (hav : List (Nat × Option (Bool × Int × Int))) (P : at_P) (lv : at_L) (ν : Nat → Int), at_KP ν P → at_LR ν h lv fl → (∀ a, some a ∈ lv → at_wV P.1.length a) → (∀ q ∈ hav, at_hz fl q) → ∃ ν', at_X ν P ν' (at_hv hav P lv).1 ∧ at_LR ν' h (at_hv hav P lv).2 fl ∧ ∀ a, some a ∈ (at_hv hav P lv).2 → at_wV (at_hv hav P lv).1.1.length a := by
  intro hav
  induction hav with
  | nil => intro P lv ν hP hl hw _; exact ⟨ν, at_X.rfl hP, hl, hw⟩
  | cons q r ih =>
    intro P lv ν hP hl hw hz
    obtain ⟨i, o⟩ := q
    have hq := hz (i, o) List.mem_cons_self
    have hr := fun q hq => hz q (List.mem_cons_of_mem _ hq)
    cases o with
    | none => exact ih P lv ν hP hl hw hr
    | some s =>
      obtain ⟨b, lo, hi⟩ := s
      have key : ∀ (v : fl_V) (z : Int), fl[i]? = some (some v) → lo ≤ z → z ≤ hi → (∀ ν', at_ev ν' (at_nv P) = z → at_RV ν' h (bif b then .inr (.inl (at_nv P)) else .inl (at_nv P)) v) → ∃ ν', at_X ν P ν' (at_hv ((i, some (b, lo, hi)) :: r) P lv).1 ∧ at_LR ν' h (at_hv ((i, some (b, lo, hi)) :: r) P lv).2 fl ∧ ∀ a, some a ∈ (at_hv ((i, some (b, lo, hi)) :: r) P lv).2 → at_wV (at_hv ((i, some (b, lo, hi)) :: r) P lv).1.1.length a := by
        intro v z e h1 h2 hv
        obtain ⟨ν1, hx, hw1, he1⟩ := at_new_X hP h1 h2
        have hl1 : at_LR ν1 h (lv.set i (some (bif b then .inr (.inl (at_nv P)) else .inl (at_nv P)))) fl := at_set_LR (hl.ag hw hx.1 (Nat.le_refl _)) e (hv ν1 he1)
        obtain ⟨ν2, hx2, hl2, hw2⟩ := ih (at_new P lo hi) _ ν1 hx.2.2 hl1 (fun a ha => by
          rcases at_set_mem ha with h | h
          · cases h
            cases b <;> exact hw1
          · exact (hw a h).mono hx.2.1) hr
        exact ⟨ν2, hx.trans hx2, hl2, hw2⟩
      cases b with
      | false =>
        obtain ⟨x, e, h1, h2⟩ := hq
        exact key _ x.toInt e h1 h2 (fun ν' he => ⟨x, rfl, he.symm⟩)
      | true =>
        obtain ⟨x, e, h1, h2⟩ := hq
        exact key _ x.toInt e h1 h2 (fun ν' he => ⟨x, rfl, he.symm⟩)
/-- the named words have values in their ranges -/
def at_bz : List (Option Nat × at_T × Int × Int) → List Int → Prop
  | [], [] => True
  | b :: r, z :: s => (b.2.2.1 ≤ z ∧ z ≤ b.2.2.2) ∧ at_bz r s
  | _, _ => False
theorem at_bh_ok : ∀ (bnd : List (Option Nat × at_T × Int × Int)) (zs : List Int) (P : at_P) (ν : Nat → Int), at_KP ν P → at_bz bnd zs → ∃ ν', at_X ν P ν' (at_bh bnd P).1 ∧ at_vz ν' (at_bh bnd P).1.1.length (at_bh bnd P).2 zs := by
  intro bnd
  induction bnd with
  | nil =>
    intro zs P ν hP hz
    cases zs with
    | nil => exact ⟨ν, at_X.rfl hP, True.intro⟩
    | cons z s => cases hz
  | cons b r ih =>
    intro zs P ν hP hz
    cases zs with
    | nil => cases hz
    | cons z s =>
      obtain ⟨⟨h1, h2⟩, h3⟩ := hz
      obtain ⟨ν1, hx, hw1, he1⟩ := at_new_X hP h1 h2
      obtain ⟨ν2, hx2, hv2⟩ := ih s (at_new P b.2.2.1 b.2.2.2) ν1 hx.2.2 h3
      exact ⟨ν2, hx.trans hx2, hw1.mono hx2.2.1, by rw [at_ev_ag hx2.1 hw1]; exact he1, hv2⟩
theorem at_cons_ok : ∀ (ts : List at_T) (P P' : at_P), at_KP ν P → (∀ t ∈ ts, at_sm m fl zs t ≤ 0) → at_LR ν h lv fl → (∀ a, some a ∈ lv → at_wV P.1.length a) → at_vz ν P.1.length bv zs → (∀ a, nn = some a → at_wf P.1.length a ∧ at_ev ν a = at_w m 2) → at_cons lv bv nn ts P = some P' → at_X ν P ν P' ∧ P'.1.length = P.1.length := by
  intro ts
  induction ts with
  | nil => intro P P' hP _ _ _ _ _ e; cases e; exact ⟨at_X.rfl hP, rfl⟩
  | cons t r ih =>
    intro P P' hP ht hl hw hb hn e
    unfold at_cons at e
    split at e
    · rename_i a ea
      obtain ⟨q1, q2⟩ := at_tm_ok hl hw hb hn ea
      obtain ⟨P1, e1, x1, l1⟩ := at_as_X hP q1 (by rw [q2]; exact ht t List.mem_cons_self)
      rw [e1] at e
      obtain ⟨x2, l2⟩ := ih P1 P' x1.2.2 (fun t' ht' => ht t' (List.mem_cons_of_mem _ ht')) hl (by rw [l1]; exact hw) (by rw [l1]; exact hb) (by rw [l1]; exact hn) e
      exact ⟨x1.trans x2, by rw [l2, l1]⟩
    · cases e
end ATLP
