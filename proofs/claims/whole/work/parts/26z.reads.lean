/-! the model's reading: one to four rows of one to four -/
theorem F_im (le : Int32) (tx : Nat → Int32) {β : Type} (k : Int32 → β) : ∀ (n : Nat) (he : Int32), fuU n le he → ∃ he', F_X8_isMore_0 le tx k n he = k he' ∧ (le ≤ he' ∨ ¬ tx he'.toNatClampNeg = 32) := by
  intro n
  induction n with
  | zero => intro he h; exact absurd h.1 (Nat.lt_irrefl 0)
  | succ n ih =>
    intro he h
    rw [F_X8_isMore_0]
    by_cases q : le ≤ he
    · rw [if_pos q]; exact ⟨he, rfl, Or.inl q⟩
    · rw [if_neg q]
      by_cases q2 : tx he.toNatClampNeg = 32
      · rw [if_pos q2]; exact ih _ (fuU_s h q)
      · rw [if_neg q2]; exact ⟨he, rfl, Or.inr q2⟩
theorem im_sp {le he : Int32} {tx : Nat → Int32} (h0 : 0 ≤ he.toInt) (hc : ¬ (f_X8_isMore le he tx).1 = 0) : ¬ le ≤ (f_X8_isMore le he tx).2 ∧ ¬ tx (f_X8_isMore le he tx).2.toNatClampNeg = 32 := by
  revert hc
  rw [f_X8_isMore]
  obtain ⟨he', e, h⟩ := F_im le tx (fun z1 => (if le ≤ z1 then ((0 : Int32), z1) else (1, z1))) (fu le he) he (fuU_0 h0)
  rw [e]
  show ¬ (if le ≤ he' then ((0 : Int32), he') else (1, he')).1 = 0 → ¬ le ≤ (if le ≤ he' then ((0 : Int32), he') else (1, he')).2 ∧ ¬ tx (if le ≤ he' then ((0 : Int32), he') else (1, he')).2.toNatClampNeg = 32
  by_cases q : le ≤ he'
  · rw [if_pos q]; intro hc; exact absurd rfl hc
  · rw [if_neg q]
    intro _
    exact ⟨q, h.resolve_left q⟩
theorem im_at {le he : Int32} {tx : Nat → Int32} (h1 : ¬ le ≤ he) (h2 : ¬ tx he.toNatClampNeg = 32) : f_X8_isMore le he tx = (1, he) := by
  rw [f_X8_isMore, fu, F_X8_isMore_0, if_neg h1, if_neg h2, if_neg h1]
theorem F_rr4 (m_le m_ro m_wi : Int32) (m_tx : Nat → Int32) {β : Type} (k : Int32 → Int32 → Int64 → β) : ∀ (n : Nat) (x he : Int32) (to : Int64), (m_ro = 0 → x.toInt ≤ 4) → ∃ (x' he' : Int32) (to' : Int64), (m_ro = 0 → x'.toInt ≤ 4) ∧ F_X8_readsRow_2 m_le m_ro m_wi m_tx k n x he to = k x' he' to' := by
  intro n
  induction n with
  | zero => intro x he to h; exact ⟨x, he, to, h, rfl⟩
  | succ n ih =>
    intro x he to h
    rw [F_X8_readsRow_2, bd]
    have key : ∀ (he2 : Int32) (to2 : Int64), (m_ro = 0 → ¬ (4 : Int32) ≤ x) → ∃ (x' he' : Int32) (to' : Int64), (m_ro = 0 → x'.toInt ≤ 4) ∧ F_X8_readsRow_2 m_le m_ro m_wi m_tx k n (x + 1) he2 to2 = k x' he' to' := by
      intro he2 to2 hc
      refine ih _ _ _ (fun z => ?_)
      have h2 := hc z
      rw [Int32.le_iff_toInt_le, show (4 : Int32).toInt = 4 from rfl] at h2
      rw [i32_inc2 (by omega)]; omega
    split
    · exact ⟨_, _, _, h, rfl⟩
    · split
      · rename_i z
        split
        · exact ⟨_, _, _, h, rfl⟩
        · rename_i q
          repeat' split
          all_goals exact key _ _ (fun _ => q)
      · rename_i z
        split
        · exact ⟨_, _, _, h, rfl⟩
        · repeat' split
          all_goals exact key _ _ (fun e => absurd e z)
theorem rr_wh {m_le m_he m_ro m_wi : Int32} {m_to : Int64} {m_tx : Nat → Int32} (hc : ¬ (f_X8_readsRow m_le m_he m_ro m_wi m_to m_tx).1 = 0) : (f_X8_readsRow m_le m_he m_ro m_wi m_to m_tx).2.2.1 = m_ro + 1 ∧ 1 ≤ (f_X8_readsRow m_le m_he m_ro m_wi m_to m_tx).2.2.2.1.toInt ∧ (m_ro = 0 → (f_X8_readsRow m_le m_he m_ro m_wi m_to m_tx).2.2.2.1.toInt ≤ 4) ∧ (¬ m_ro = 0 → (f_X8_readsRow m_le m_he m_ro m_wi m_to m_tx).2.2.2.1 = m_wi) := by
  revert hc
  rw [f_X8_readsRow]
  obtain ⟨x', he', to', h1, e⟩ := F_rr4 m_le m_ro m_wi m_tx (fun z2 z3 z4 => (bd (f_X8_isMore m_le z3 m_tx) (fun u5 => (if u5.1 = 0 then ((0 : Int32), u5.2, m_ro, m_wi, z4) else (if (m_tx u5.2.toNatClampNeg) = 59 then (if z2 ≤ 0 then (0, u5.2, m_ro, m_wi, z4) else (if m_ro = 0 then (1, u5.2 + 1, m_ro + 1, z2, z4) else (if z2 = m_wi then (1, u5.2 + 1, m_ro + 1, z2, z4) else (0, u5.2, m_ro, m_wi, z4)))) else (0, u5.2, m_ro, m_wi, z4)))))) (fu (rb m_ro m_wi) 0) 0 m_he m_to (fun _ => by decide)
  rw [e, bd]
  split
  · intro hc; exact absurd rfl hc
  · split
    · split
      · intro hc; exact absurd rfl hc
      · rename_i z
        have z : 1 ≤ x'.toInt := by rw [Int32.le_iff_toInt_le, Int32.toInt_zero] at z; omega
        split
        · rename_i r; intro _; exact ⟨rfl, z, fun _ => h1 r, fun n => absurd r n⟩
        · rename_i n
          split
          · rename_i w; intro _; exact ⟨rfl, z, fun r => absurd r n, fun _ => w⟩
          · intro hc; exact absurd rfl hc
    · intro hc; exact absurd rfl hc
def rwI (x ro wi : Int32) : Prop := x = 0 ∨ (1 ≤ ro.toInt ∧ ro.toInt ≤ 4 ∧ 1 ≤ wi.toInt ∧ wi.toInt ≤ 4)
theorem rw_s {m_le he ro wi : Int32} {to : Int64} {m_tx : Nat → Int32} (h : 0 ≤ ro.toInt ∧ (ro = 0 ∨ (1 ≤ wi.toInt ∧ wi.toInt ≤ 4))) (q3 : ¬ (4 : Int32) ≤ ro) (q4 : ¬ (f_X8_readsRow m_le he ro wi to m_tx).1 = 0) : rwI 1 (f_X8_readsRow m_le he ro wi to m_tx).2.2.1 (f_X8_readsRow m_le he ro wi to m_tx).2.2.2.1 := by
  obtain ⟨e1, e2, e3, e4⟩ := rr_wh q4
  rw [Int32.le_iff_toInt_le, show (4 : Int32).toInt = 4 from rfl] at q3
  refine Or.inr ?_
  rw [e1, i32_inc2 (by omega)]
  refine ⟨by omega, by omega, e2, ?_⟩
  by_cases z : ro = 0
  · exact e3 z
  · rw [e4 z]
    rcases h.2 with y | y
    · exact absurd y z
    · exact y.2
theorem F_rdw {m_le : Int32} {m_tx : Nat → Int32} {β : Type} (k : Int32 → Int32 → Int32 → Int32 → Int64 → β) : ∀ (n : Nat) (x he ro wi : Int32) (to : Int64), rwI x ro wi → ∃ (x' he' ro' wi' : Int32) (to' : Int64), rwI x' ro' wi' ∧ F_X8_reads_25 m_le m_tx k n x he ro wi to = k x' he' ro' wi' to' := by
  intro n
  induction n with
  | zero => intro x he ro wi to h; exact ⟨x, he, ro, wi, to, h, rfl⟩
  | succ n ih =>
    intro x he ro wi to h
    rw [F_X8_reads_25]
    by_cases q : x = 0
    · rw [if_pos q]; exact ⟨_, _, _, _, _, Or.inl q, rfl⟩
    · rw [if_neg q, bd]
      by_cases q2 : (f_X8_isMore m_le he m_tx).1 = 0
      · rw [if_pos q2]; exact ⟨_, _, _, _, _, h, rfl⟩
      · rw [if_neg q2]
        have h := h.resolve_left q
        by_cases q3 : (4 : Int32) ≤ ro
        · rw [if_pos q3]; exact ih _ _ _ _ _ (Or.inl rfl)
        · rw [if_neg q3, bd]
          by_cases q4 : (f_X8_readsRow m_le (f_X8_isMore m_le he m_tx).2 ro wi to m_tx).1 = 0
          · rw [if_pos q4]; exact ih _ _ _ _ _ (Or.inl rfl)
          · rw [if_neg q4]
            exact ih _ _ _ _ _ (rw_s ⟨by omega, Or.inr ⟨h.2.2.1, h.2.2.2⟩⟩ q3 q4)
theorem reads_wh {m_le : Int32} {m_tx : Nat → Int32} {u : Int32 × Int32 × Int32 × Int32 × Int64} (h : f_X8_reads m_le m_tx = u) (hc : ¬ u.1 = 0) : wh u.2.2.2.1 u.2.2.1 := by
  have key : rwI (f_X8_reads m_le m_tx).1 (f_X8_reads m_le m_tx).2.2.1 (f_X8_reads m_le m_tx).2.2.2.1 := by
    rw [f_X8_reads, bd]
    have go : ∀ (n : Nat) (x he ro wi : Int32) (to : Int64), rwI x ro wi → rwI (F_X8_reads_25 m_le m_tx (fun z4 z5 z6 z7 z8 => (z4, z5, z6, z7, z8)) n x he ro wi to).1 (F_X8_reads_25 m_le m_tx (fun z4 z5 z6 z7 z8 => (z4, z5, z6, z7, z8)) n x he ro wi to).2.2.1 (F_X8_reads_25 m_le m_tx (fun z4 z5 z6 z7 z8 => (z4, z5, z6, z7, z8)) n x he ro wi to).2.2.2.1 := by
      intro n x he ro wi to h
      obtain ⟨a, b, c, d, e, h1, h2⟩ := F_rdw (m_le := m_le) (m_tx := m_tx) (fun z4 z5 z6 z7 z8 => (z4, z5, z6, z7, z8)) n x he ro wi to h
      rw [h2]
      exact h1
    by_cases q : (f_X8_isMore m_le 0 m_tx).1 = 0
    · exact go _ _ _ _ _ _ (Or.inl q)
    · obtain ⟨i1, i2⟩ := im_sp (by decide) q
      rw [show (6 : Nat) = 5 + 1 from rfl, F_X8_reads_25, if_neg q, bd, im_at i1 i2, if_neg (show ¬ (1 : Int32) = 0 by decide), if_neg (show ¬ (4 : Int32) ≤ 0 by decide), bd]
      by_cases q4 : (f_X8_readsRow m_le (f_X8_isMore m_le 0 m_tx).2 0 0 0 m_tx).1 = 0
      · rw [if_pos q4]; exact go _ _ _ _ _ _ (Or.inl rfl)
      · rw [if_neg q4]; exact go _ _ _ _ _ _ (rw_s ⟨by decide, Or.inl rfl⟩ (by decide) q4)
  rw [h] at key
  have := key.resolve_left hc
  exact ⟨⟨this.2.2.1, this.2.2.2⟩, this.1, this.2.1⟩
