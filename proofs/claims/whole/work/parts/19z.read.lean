/-! what a text that was read can be: at most four rows of at most four -/
def rdI (x2 t_r t_w : Int32) : Prop := (0 ≤ x2.toInt ∧ x2.toInt ≤ 4) ∧ (0 ≤ t_r.toInt ∧ t_r.toInt ≤ 4) ∧ (0 ≤ t_w.toInt ∧ t_w.toInt ≤ 4) ∧ (0 < x2.toInt → t_r.toInt < 4)
theorem rd_fit {x r w : Int32} (h : rdI x r w) (hf : ¬ f_X6_fitsRow x r w = 0) : rdI (x + 1) r w := by
  obtain ⟨⟨a1, a2⟩, ⟨b1, b2⟩, ⟨c1, c2⟩, d⟩ := h
  rw [f_X6_fitsRow] at hf
  have e4 : (4 : Int32).toInt = 4 := rfl
  by_cases q : 4 ≤ r
  · rw [if_pos q] at hf; exact absurd rfl hf
  · rw [if_neg q] at hf
    rw [Int32.le_iff_toInt_le, e4] at q
    have hx : x.toInt < 4 := by
      by_cases z : r = 0
      · rw [if_pos z] at hf
        by_cases y : 4 ≤ x
        · rw [if_pos y] at hf; exact absurd rfl hf
        · rw [Int32.le_iff_toInt_le, e4] at y; omega
      · rw [if_neg z] at hf
        by_cases y : w ≤ x
        · rw [if_pos y] at hf; exact absurd rfl hf
        · rw [Int32.le_iff_toInt_le] at y; omega
    have e := i32_inc2 (i := x) (by omega)
    exact ⟨⟨by omega, by omega⟩, ⟨b1, b2⟩, ⟨c1, c2⟩, fun _ => by omega⟩
theorem rd_end {x r w : Int32} (h : rdI x r w) (hf : ¬ f_X6_endsRow x r w = 0) : rdI 0 (r + 1) x := by
  obtain ⟨⟨a1, a2⟩, ⟨b1, b2⟩, ⟨c1, c2⟩, d⟩ := h
  rw [f_X6_endsRow] at hf
  by_cases q : x ≤ 0
  · rw [if_pos q] at hf; exact absurd rfl hf
  · rw [Int32.le_iff_toInt_le, Int32.toInt_zero] at q
    have := d (by omega)
    have e := i32_inc2 (i := r) (by omega)
    exact ⟨⟨by decide, by decide⟩, ⟨by omega, by omega⟩, ⟨a1, a2⟩, fun z => absurd z (by decide)⟩
theorem F_rd {t_n : Int32} {t_le : Nat → Int32} {β : Type} (Q : β → Prop) (k0 k1 : Int32 → Int32 → Int32 → Int64 → β) (h0 : ∀ x2 r w t, rdI x2 r w → Q (k0 x2 r w t)) (h1 : ∀ x3 x2 r w t, rdI x2 r w → Q (k1 x3 r w t)) : ∀ (n : Nat) (x1 x2 x3 r w : Int32) (t : Int64), rdI x2 r w → Q (F_X6_read_21 t_n t_le k0 k1 n x1 x2 x3 r w t) := by
  intro n
  induction n with
  | zero => intro x1 x2 x3 r w t h; exact h0 _ _ _ _ h
  | succ n ih =>
    intro x1 x2 x3 r w t h
    rw [F_X6_read_21]
    repeat' split
    all_goals first | exact h0 _ _ _ _ h | exact h1 _ _ _ _ _ h | exact ih _ _ _ _ _ _ h | (rename_i hf; exact ih _ _ _ _ _ _ (rd_fit h hf)) | (rename_i he; exact ih _ _ _ _ _ _ (rd_end h he))
theorem read_I (t_n : Int32) (t_le : Nat → Int32) : (f_X6_read t_n t_le).2.1.toInt ≤ 4 ∧ (f_X6_read t_n t_le).2.2.1.toInt ≤ 4 := by
  rw [f_X6_read]
  refine F_rd (fun u : Int32 × Int32 × Int32 × Int64 => u.2.1.toInt ≤ 4 ∧ u.2.2.1.toInt ≤ 4) _ _ ?_ ?_ _ _ _ _ _ _ _ ?_
  · intro x2 r w t h
    obtain ⟨_, ⟨_, b⟩, ⟨_, c⟩, _⟩ := h
    repeat' split
    all_goals exact ⟨b, c⟩
  · intro x3 x2 r w t h
    exact ⟨h.2.1.2, h.2.2.1.2⟩
  · exact ⟨⟨by decide, by decide⟩, ⟨by decide, by decide⟩, ⟨by decide, by decide⟩, fun z => absurd z (by decide)⟩
theorem read_w {t_n : Int32} {t_le : Nat → Int32} {u : Int32 × Int32 × Int32 × Int64} (h : f_X6_read t_n t_le = u) : u.2.2.1.toInt < 2147483647 := by
  have := read_I t_n t_le
  rw [h] at this
  omega
theorem read_h {t_n : Int32} {t_le : Nat → Int32} {u : Int32 × Int32 × Int32 × Int64} (h : f_X6_read t_n t_le = u) : u.2.1.toInt < 2147483647 := by
  have := read_I t_n t_le
  rw [h] at this
  omega
