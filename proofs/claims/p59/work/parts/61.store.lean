/-! ===== the looker's memory: words that are written ===== -/
/-- words that the looker never writes: the steps of the reference, its image, what it puts aside, the rows of the histories -/
def at_prot (t : Nat) (j : Int) : Prop := (t = at_TA ∧ 1420 ≤ j) ∨ t = 80 ∨ t = 82 ∨ t = 74 ∨ t = 77 ∨ t = 78
def at_np (sy : List (Int × Int)) (t : Nat) (idx : at_A) : Bool := bif Nat.beq t at_TA then decide (at_hi sy idx ≤ 1419) else !(Nat.beq t 80 || (Nat.beq t 82 || (Nat.beq t 74 || (Nat.beq t 77 || Nat.beq t 78))))
/-- the place of a write, for the list of places -/
def at_en (sy : List (Int × Int)) (t : Nat) (idx : at_A) : at_W := match (bif Nat.beq t at_TA then at_rin sy idx 444 61 16 61 else none) with
  | some o => (fun d : at_A => (t, true, at_lo sy d, at_hi sy d)) (at_sub idx (at_add (at_c 444) (at_mul 61 o)))
  | none => (t, false, at_lo sy idx, at_hi sy idx)
def at_eqW (a b : at_W) : Bool := Nat.beq a.1 b.1 && ((bif a.2.1 then b.2.1 else !b.2.1) && (decide (a.2.2.1 = b.2.2.1) && decide (a.2.2.2 = b.2.2.2)))
def at_hb (brk : List (Nat × at_A)) (w : Nat) (o : at_A) : Bool := brk.any (fun b => Nat.beq b.1 w && at_eq b.2 o)
def at_reg (w : Nat) : at_R := (w, (at_tb w : Int), 61, 16, 1, 0, 0)
def at_good (S : at_S) (pl idx v : at_A) (w : Nat) : Bool := match w with
  | 2 => (match at_ff S.2.1 at_TA pl (at_sub idx (at_c 1)) with
    | some c => at_nn S.1 v && at_le S.1 (at_sub v (at_mul 3600 c))
    | none => false)
  | 4 => decide (1 ≤ at_lo S.1.1 v)
  | _ => decide (100 ≤ at_lo S.1.1 v)
/-- a write in a marked region: what is broken then -/
def at_sv1 (S : at_S) (pl idx v : at_A) (w : Nat) (brk : List (Nat × at_A)) : Option (List (Nat × at_A)) :=
  bif at_dj S.1.1 idx (at_reg w) then some brk
  else match at_rin S.1.1 idx (at_tb w) 61 16 1 with
    | some o => bif at_good S pl idx v w then some (brk.filter (fun b => !(Nat.beq b.1 w && at_eq b.2 o))) else bif at_hb brk w o then some brk else some ((w, o) :: brk)
    | none => match at_rin S.1.1 idx 444 61 16 61 with
      | some o => bif at_hb brk w o && at_hb brk 2 o then some brk else none
      | none => none
/-- a capacity is written: its charge may be too much for it -/
def at_svc (S : at_S) (pl idx v : at_A) (brk : List (Nat × at_A)) : List (Nat × at_A) :=
  bif at_dj S.1.1 idx (at_reg 1) then brk
  else match at_rin S.1.1 idx 444 61 16 1 with
    | none => brk
    | some o => bif at_hb brk 2 o then brk else match at_ff S.2.1 at_TA pl (at_add idx (at_c 1)) with
      | none => (2, o) :: brk
      | some c => bif at_le S.1 (at_sub c (at_mul 3600 v)) then brk else (2, o) :: brk
def at_svA (S : at_S) (n pl idx v : at_A) : Option (List (Nat × at_A)) :=
  bif at_eq idx (at_c 2) then (bif at_eq v (at_add n (at_c 1)) then some ((1, n) :: (2, n) :: (3, n) :: (4, n) :: S.2.2.2) else none)
  else bif at_nz S.1 (at_sub idx (at_c 2)) && (at_dj S.1.1 idx (5, 341, 35, 3, 1, 0, 16) || at_le S.1 (at_sub v n)) then
    (match at_sv1 S pl idx v 2 (at_svc S pl idx v S.2.2.2) with
    | none => none
    | some b2 => match at_sv1 S pl idx v 1 b2 with
      | none => none
      | some b1 => match at_sv1 S pl idx v 3 b1 with
        | none => none
        | some b3 => at_sv1 S pl idx v 4 b3)
  else none
def at_keep (P : at_P) (t : Nat) (pl idx : at_A) (f : at_F) : Bool := !Nat.beq f.1 t || (at_nz P (at_sub f.2.1 pl) || at_nz P (at_sub f.2.2.1 idx))
def at_fin (S : at_S) (t : Nat) (pl idx v : at_A) (brk : List (Nat × at_A)) : at_S := (S.1, (t, pl, idx, v) :: S.2.1.filter (at_keep S.1 t pl idx), (fun e : at_W => bif S.2.2.1.any (at_eqW e) then S.2.2.1 else e :: S.2.2.1) (at_en S.1.1 t idx), brk)
def at_sv (S : at_S) (t : Nat) (pl idx v : at_A) : Option at_S :=
  bif (at_rg t).all (fun r => at_dj S.1.1 idx r || at_inR S.1 v r.2.2.2.2.2.1 r.2.2.2.2.2.2) && at_np S.1.1 t idx then
    (bif Nat.beq t at_TA then (fun s : at_S × at_A => match at_svA s.1 s.2 pl idx v with
      | some brk => some (at_fin s.1 t pl idx v brk)
      | none => none) (at_cs S)
    else some (at_fin S t pl idx v S.2.2.2))
  else none
theorem at_np_ok {ν : Nat → Int} {sy : List (Int × Int)} (hR : at_Rg ν sy) {t : Nat} {idx : at_A} (h : at_np sy t idx = true) : ¬ at_prot t (at_ev ν idx) := by
  unfold at_np at h
  cases ht : Nat.beq t at_TA with
  | true =>
    rw [ht] at h
    have h := of_decide_eq_true h
    have := at_hi_le hR idx
    have ht := Nat.eq_of_beq_eq_true ht
    subst ht
    rintro (⟨-, h2⟩ | h2 | h2 | h2 | h2 | h2)
    · omega
    · cases h2
    · cases h2
    · cases h2
    · cases h2
    · cases h2
  | false =>
    rw [ht] at h
    simp only [cond_false, Bool.not_eq_true', Bool.or_eq_false_iff] at h
    obtain ⟨h1, h2, h3, h4, h5⟩ := h
    rintro (⟨e, -⟩ | e | e | e | e | e)
    · rw [e, Nat.beq_refl] at ht; cases ht
    · rw [e] at h1; cases h1
    · rw [e] at h2; cases h2
    · rw [e] at h3; cases h3
    · rw [e] at h4; cases h4
    · rw [e] at h5; cases h5
theorem at_en_ok {ν : Nat → Int} {sy : List (Int × Int)} (hR : at_Rg ν sy) {t : Nat} {idx : at_A} : at_cv (at_en sy t idx) t (at_ev ν idx) := by
  unfold at_en
  split
  · rename_i o e
    cases hb : Nat.beq t at_TA with
    | false => rw [hb] at e; cases e
    | true =>
      replace e : at_rin sy idx 444 61 16 61 = some o := by rw [hb] at e; exact e
      obtain ⟨i, o0, o1, i0, i1, ei⟩ := at_rin_ok hR e
      have l := at_lo_le hR (at_sub idx (at_add (at_c 444) (at_mul 61 o)))
      have u := at_hi_le hR (at_sub idx (at_add (at_c 444) (at_mul 61 o)))
      rw [at_ev_sub, at_ev_add, at_ev_c, at_ev_mul] at l u
      refine ⟨rfl, ?_⟩
      show ∃ o : Int, _
      exact ⟨at_ev ν o, o0, by omega, by dsimp only; omega, by dsimp only; omega⟩
  · refine ⟨rfl, ?_⟩
    show _ ≤ _ ∧ _ ≤ _
    exact ⟨at_lo_le hR idx, at_hi_le hR idx⟩
theorem at_eqW_ok {a b : at_W} (h : at_eqW a b = true) : a = b := by
  obtain ⟨a1, a2, a3, a4⟩ := a
  obtain ⟨b1, b2, b3, b4⟩ := b
  unfold at_eqW at h
  simp only [Bool.and_eq_true, decide_eq_true_eq] at h
  obtain ⟨h1, h2, h3, h4⟩ := h
  have h1 := Nat.eq_of_beq_eq_true h1
  subst h1 h3 h4
  cases a2 <;> cases b2 <;> first | rfl | cases h2
theorem at_hb_ok {brk : List (Nat × at_A)} {w : Nat} {o : at_A} (h : at_hb brk w o = true) : (w, o) ∈ brk := by
  unfold at_hb at h
  obtain ⟨b, hb, e⟩ := List.any_eq_true.mp h
  simp only [Bool.and_eq_true] at e
  have e1 := Nat.eq_of_beq_eq_true e.1
  have e2 := at_eq_ok e.2
  obtain ⟨b1, b2⟩ := b
  dsimp only at e1 e2
  subst e1 e2
  exact hb
section ATS
variable {X : fl_M → Prop} {m0 m : fl_M} {ν ν' : Nat → Int} {S : at_S}
theorem at_up_ne {f : Nat → Nat → Int32} {p i q j : Nat} {x : Int32} (h : ¬ (q = p ∧ j = i)) : fl_up f p i x q j = f q j := if_neg h
theorem at_up_eq {f : Nat → Nat → Int32} {p i : Nat} {x : Int32} : fl_up f p i x p i = x := if_pos ⟨rfl, rfl⟩
/-- the facts behind a write -/
theorem at_keep_ok (h : at_GS X m0 m ν S) {t p i : Nat} {pl idx v : at_A} {x : Int32} (wp : at_wf S.1.1.length pl) (wi : at_wf S.1.1.length idx) (wv : at_wf S.1.1.length v) (ep : at_ev ν pl = p) (ei : at_ev ν idx = i) (ex : x.toInt = at_ev ν v) (hk : fk_K p = t) : ∀ f ∈ (t, pl, idx, v) :: S.2.1.filter (at_keep S.1 t pl idx), at_FT ν (fl_up m.1 p i x, m.2) f ∧ at_FW S.1.1.length f := by
  intro f hf
  rcases List.mem_cons.mp hf with rfl | hf
  · exact ⟨⟨p, i, ep, ei, hk, by dsimp only; rw [at_up_eq]; exact ex⟩, wp, wi, wv⟩
  · obtain ⟨hf, hkp⟩ := List.mem_filter.mp hf
    obtain ⟨⟨q, j, e1, e2, e3, e4⟩, hw⟩ := h.2.1 f hf
    refine ⟨⟨q, j, e1, e2, e3, ?_⟩, hw⟩
    dsimp only
    rw [at_up_ne]
    · exact e4
    · rintro ⟨rfl, rfl⟩
      unfold at_keep at hkp
      simp only [Bool.or_eq_true, Bool.not_eq_true'] at hkp
      rcases hkp with hkp | hkp | hkp
      · rw [← e3, ← hk, Nat.beq_refl] at hkp; cases hkp
      · have := at_nz_ok h.1.1 hkp
        rw [at_ev_sub, e1, ep] at this
        omega
      · have := at_nz_ok h.1.1 hkp
        rw [at_ev_sub, e2, ei] at this
        omega
theorem at_RG.up (h : at_RG m) {ν : Nat → Int} {P : at_P} (hP : at_GP ν P) {t p i : Nat} {idx v : at_A} {x : Int32} (ei : at_ev ν idx = i) (ex : x.toInt = at_ev ν v) (hk : fk_K p = t) (hb : (at_rg t).all (fun r => at_dj P.1 idx r || at_inR P v r.2.2.2.2.2.1 r.2.2.2.2.2.2) = true) : at_RG (fl_up m.1 p i x, m.2) := by
  intro q hq r hr j hj
  dsimp only at hq ⊢
  by_cases hc : q = p ∧ j = i
  · obtain ⟨rfl, rfl⟩ := hc
    rw [at_up_eq, ex]
    have := List.all_eq_true.mp hb r (hk ▸ hr)
    rcases (Bool.or_eq_true _ _).mp this with h1 | h1
    · have := at_dj_ok hP.1 h1
      rw [ei] at this
      exact absurd hj this
    · exact at_inR_ok hP h1
  · rw [at_up_ne hc]
    exact h q hq r hr j hj
theorem at_MD.up {wr : List at_W} (h : at_MD m0 m wr) {p i : Nat} {x : Int32} {e : at_W} {wr' : List at_W} (he : at_cv e (fk_K p) i) (h1 : ∀ w ∈ wr, w ∈ wr') (h2 : e ∈ wr') : at_MD m0 (fl_up m.1 p i x, m.2) wr' := by
  refine ⟨h.1, fun q j hne => ?_⟩
  dsimp only at hne
  by_cases hc : q = p ∧ j = i
  · obtain ⟨rfl, rfl⟩ := hc
    exact ⟨e, h2, he⟩
  · rw [at_up_ne hc] at hne
    obtain ⟨w, hw, hcv⟩ := h.2 q j hne
    exact ⟨w, h1 w hw, hcv⟩
end ATS
