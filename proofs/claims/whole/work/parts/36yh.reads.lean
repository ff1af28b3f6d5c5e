/-! reading: rows, and the whole -/
def bN (r w : Nat) : Nat := if r = 0 then 4 else w
theorem fe_all : ∀ x r w : Fin 5, ((f_X6_fitsRow (nI x.val) (nI r.val) (nI w.val) = 0) ↔ (4 ≤ r.val ∨ bN r.val w.val ≤ x.val)) ∧ ((f_X6_endsRow (nI x.val) (nI r.val) (nI w.val) = 0) ↔ ¬ (1 ≤ x.val ∧ (r.val = 0 ∨ x.val = w.val))) := by decide +kernel
theorem sig_end {n : Nat} (hn : n ≤ 40) (tx : Nat → Int32) : f_X8_isSign (nI n) (nI n) tx = (0, nI n) := by
  rw [f_X8_isSign, im_end hn, bd]
  exact if_pos rfl
theorem r0_iff {r : Nat} (hr : r < 2 ^ 31) : (nI r = 0) ↔ r = 0 := ⟨fun e => (nI_eq hr (by decide)).mp (show nI r = nI 0 from e), fun e => by rw [e]; rfl⟩
theorem F_row {n : Nat} (hn : n ≤ 40) {le tx : Nat → Int32} (hT : ∀ k, k < n → le k = tx k) {r w : Nat} (hr : r < 4) (hw : w ≤ 4) {β : Type} (k : Int32 → Int32 → Int64 → β) : ∀ (g x i f c : Nat) (t m : Int64), i ≤ n → n < i + f → x ≤ bN r w → bN r w < x + g → c = w * r + x → NR c t m → (x = 0 → ¬ (f_X8_isMore (nI n) (nI i) tx).1 = 0) →
    ∃ (x' i' f' c' : Nat) (t' m' : Int64), F_X8_readsRow_2 (nI n) (nI r) (nI w) tx k g (nI x) (nI i) m = k (nI x') (nI i') m' ∧ Cs n le f c x i r w t = Cs n le f' c' x' i' r w t' ∧ (c' = w * r + x' ∧ NR c' t' m' ∧ x' ≤ bN r w) ∧ (i' ≤ n ∧ n < i' + f') ∧ (i' = n → 1 ≤ x') ∧ (i' = n ∨ (¬ tx i' = 32 ∧ (f_X6_numberOfSign (tx i') = -2 ∨ x' = bN r w))) := by
  have hb4 : bN r w ≤ 4 := by unfold bN; split <;> omega
  have hwr : w * r ≤ w * 3 := Nat.mul_le_mul_left w (by omega)
  intro g
  induction g with
  | zero => intro x i f c t m h1 h2 h3 h4; exact absurd h4 (by omega)
  | succ g ih =>
    intro x i f c t m hi hf hx hg hc hN hm
    rw [F_X8_readsRow_2]
    obtain ⟨i1, f1, g1, g2, g3, g4, g5, g6⟩ := Cs_skip hn hT (n - i) i f (by omega) hf
    rw [sig_skip hn g5, g6]
    by_cases q : i1 = n
    · subst q
      rw [sig_end hn, bd, if_pos rfl]
      refine ⟨x, i1, f1, c, t, m, rfl, rfl, ⟨hc, hN, hx⟩, ⟨g2, g3⟩, fun _ => ?_, Or.inl rfl⟩
      by_cases x0 : x = 0
      · have := hm x0
        rw [g5, im_end hn] at this
        exact absurd rfl this
      · omega
    · have h32 := g4.resolve_left q
      have hi1 : i1 < n := by omega
      rcases sg_or (tx i1) with ⟨d, hd, hs⟩ | ⟨h1, h2, h3⟩
      · rw [isSg hi1 hn h32 hs, bd]
        dsimp only
        rw [if_neg (show ¬ (1 : Int32) = 0 by decide), nI_clamp (by omega)]
        by_cases qb : x = bN r w
        · refine ⟨x, i1, f1, c, t, m, ?_, rfl, ⟨hc, hN, hx⟩, ⟨g2, g3⟩, fun e => absurd e q, Or.inr ⟨h32, Or.inr qb⟩⟩
          by_cases r0 : r = 0
          · rw [if_pos ((r0_iff (by omega)).mpr r0)]
            have : x = 4 := by rw [qb]; unfold bN; rw [if_pos r0]
            rw [if_pos (lit_le 4 4 rfl (by omega) (by omega))]
          · rw [if_neg (fun e => r0 ((r0_iff (by omega)).mp e))]
            have : x = w := by rw [qb]; unfold bN; rw [if_neg r0]
            rw [if_pos (nI_le (by omega) (by omega))]
        · have hc16 : c < 16 := by
            by_cases r0 : r = 0
            · rw [r0, Nat.mul_zero] at hc; omega
            · have : bN r w = w := by unfold bN; rw [if_neg r0]
              omega
          have hfit : ¬ f_X6_fitsRow (nI x) (nI r) (nI w) = 0 := by
            rw [(fe_all ⟨x, by omega⟩ ⟨r, by omega⟩ ⟨w, by omega⟩).1]
            simp only
            omega
          have st := Cs_sign hn hT (f := f1 - 1) (t := t) hi1 hc16 hs hfit
          rw [show f1 - 1 + 1 = f1 by omega] at st
          have hm5 := NR_set hN hc16 hd
          obtain ⟨x', i', f', c', t', m', e1, e2, e3, e4, e5, e6⟩ := ih (x + 1) (i1 + 1) (f1 - 1) (c + 1) _ _ (by omega) (by omega) (by omega) (by omega) (by omega) hm5 (fun z => absurd z (by omega))
          refine ⟨x', i', f', c', t', m', ?_, st.trans e2, e3, e4, e5, e6⟩
          rw [← e1, nI_1 x, nI_1 i1]
          have ss := sg_sum hs (fun V => F_X8_readsRow_2 (nI n) (nI r) (nI w) tx k g (nI (x + 1)) (nI (i1 + 1)) (m ||| shlL V (nI (3 * c))))
          by_cases r0 : r = 0
          · have r0' : nI r = 0 := (r0_iff (by omega)).mpr r0
            have : ¬ (4 : Int32) ≤ nI x := lit_nle 4 4 rfl (by have : bN r w = 4 := by { unfold bN; rw [if_pos r0] }; omega) (by decide)
            rw [if_pos r0', if_neg this, if_pos r0', if_pos r0', show (3 : Int32) * nI x = nI (3 * c) by rw [show (3 : Int32) = nI 3 from rfl, pk_mul, show x = c by rw [hc, r0]; omega]]
            exact ss
          · have r0' : ¬ nI r = 0 := fun e => r0 ((r0_iff (by omega)).mp e)
            have : ¬ nI w ≤ nI x := nI_ge (by have : bN r w = w := by { unfold bN; rw [if_neg r0] }; omega) (by omega)
            rw [if_neg r0', if_neg this, if_neg r0', if_neg r0', show (3 : Int32) * ((nI w * nI r) + nI x) = nI (3 * c) by rw [show (3 : Int32) = nI 3 from rfl, pk_mul, nI_add, pk_mul, hc]]
            exact ss
      · rw [notSg hi1 hn h32 ⟨h2, h3⟩, bd]
        dsimp only
        rw [if_pos rfl]
        exact ⟨x, i1, f1, c, t, m, rfl, rfl, ⟨hc, hN, hx⟩, ⟨g2, g3⟩, fun e => absurd e q, Or.inr ⟨h32, Or.inl h1⟩⟩
theorem row_val {n : Nat} (hn : n ≤ 40) {le tx : Nat → Int32} (hT : ∀ k, k < n → le k = tx k) {r w : Nat} (hr : r < 4) (hw : w ≤ 4) {i f c : Nat} {t m : Int64} (hi : i ≤ n) (hf : n < i + f) (hc : c = w * r) (hN : NR c t m) (hm : ¬ (f_X8_isMore (nI n) (nI i) tx).1 = 0) :
    (∃ i', i' ≤ n ∧ (f_X8_readsRow (nI n) (nI i) (nI r) (nI w) m tx).1 = 0 ∧ (f_X8_readsRow (nI n) (nI i) (nI r) (nI w) m tx).2.1 = nI i' ∧ (Cs n le f c 0 i r w t).1 = nI i') ∨ (∃ (i' x' f' c' : Nat) (t' m' : Int64), f_X8_readsRow (nI n) (nI i) (nI r) (nI w) m tx = (1, nI i', nI (r + 1), nI x', m') ∧ Cs n le f c 0 i r w t = Cs n le f' c' 0 i' (r + 1) x' t' ∧ (1 ≤ x' ∧ x' ≤ 4) ∧ (c' = x' * (r + 1) ∧ NR c' t' m') ∧ i' ≤ n ∧ n < i' + f') := by
  have hb4 : bN r w ≤ 4 := by unfold bN; split <;> omega
  have erb : rb (nI r) (nI w) = nI (bN r w) := by
    unfold rb bN
    by_cases r0 : r = 0
    · rw [if_pos ((r0_iff (by omega)).mpr r0), if_pos r0]; rfl
    · rw [if_neg (fun e => r0 ((r0_iff (by omega)).mp e)), if_neg r0]
  obtain ⟨x', i', f', c', t', m', e1, e2, ⟨e3, e4, e5⟩, ⟨e6, e7⟩, e8, e9⟩ := F_row hn hT hr hw (fun z2 z3 z4 => (bd (f_X8_isMore (nI n) z3 tx) (fun u5 => (if u5.1 = 0 then ((0 : Int32), u5.2, nI r, nI w, z4) else (if (tx u5.2.toNatClampNeg) = 59 then (if z2 ≤ 0 then (0, u5.2, nI r, nI w, z4) else (if nI r = 0 then (1, u5.2 + 1, nI r + 1, z2, z4) else (if z2 = nI w then (1, u5.2 + 1, nI r + 1, z2, z4) else (0, u5.2, nI r, nI w, z4)))) else (0, u5.2, nI r, nI w, z4)))))) (bN r w + 1) 0 i f c t m hi hf (by omega) (by omega) (by omega) hN (fun _ => hm)
  rw [show nI 0 = (0 : Int32) from rfl] at e1
  rw [f_X8_readsRow, erb, fuN (by omega), e1, bd, e2]
  obtain ⟨f', rfl⟩ : ∃ g, f' = g + 1 := ⟨f' - 1, by omega⟩
  by_cases q : i' = n
  · subst q
    have hx1 := e8 rfl
    rw [im_end hn, if_pos rfl, Cs_end hn]
    refine Or.inl ⟨i', Nat.le_refl _, rfl, rfl, ?_⟩
    rw [if_neg (nI_nle (by omega) (by omega))]
    split <;> rfl
  · obtain ⟨h32, h9⟩ := e9.resolve_left q
    have hi1 : i' < n := by omega
    have fe := fe_all ⟨x', by omega⟩ ⟨r, by omega⟩ ⟨w, by omega⟩
    simp only at fe
    rw [im_at (nI_ge (by omega) (by omega)) (by rw [nI_clamp (by omega)]; exact h32)]
    dsimp only
    rw [if_neg (show ¬ (1 : Int32) = 0 by decide), nI_clamp (by omega)]
    by_cases q59 : tx i' = 59
    · rw [if_pos q59]
      by_cases en : 1 ≤ x' ∧ (r = 0 ∨ x' = w)
      · right
        have en' : ¬ f_X6_endsRow (nI x') (nI r) (nI w) = 0 := fun e => fe.2.mp e en
        rw [if_neg (nI_nle (by omega) (by omega)), Cs_row hn hT hi1 q59 en']
        have hc' : c' = x' * (r + 1) := by
          rw [e3, Nat.mul_add]
          rcases en.2 with z | z
          · rw [z]; omega
          · rw [z]; omega
        have hres : (if nI r = 0 then ((1 : Int32), nI i' + 1, nI r + 1, nI x', m') else (if nI x' = nI w then (1, nI i' + 1, nI r + 1, nI x', m') else (0, nI i', nI r, nI w, m'))) = (1, nI (i' + 1), nI (r + 1), nI x', m') := by
          rw [nI_1, nI_1]
          by_cases r0 : r = 0
          · rw [if_pos ((r0_iff (by omega)).mpr r0)]
          · rw [if_neg (fun e => r0 ((r0_iff (by omega)).mp e)), if_pos (by rw [en.2.resolve_left r0])]
        exact ⟨i' + 1, x', f', c', t', m', hres, rfl, ⟨en.1, by omega⟩, ⟨hc', e4⟩, by omega, by omega⟩
      · left
        have hbad := Cs_bad (f := f') (c := c') (t := t') hn hT hi1 h32 (fun _ => fe.2.mpr en) (Or.inl (by rw [q59]; decide))
        refine ⟨i', e6, ?_, ?_, hbad⟩
        · by_cases x0 : x' = 0
          · rw [x0, if_pos (show nI 0 ≤ (0 : Int32) by decide)]
          · rw [if_neg (nI_nle (by omega) (by omega)), if_neg (fun e => en ⟨by omega, Or.inl ((r0_iff (by omega)).mp e)⟩), if_neg (fun e => en ⟨by omega, Or.inr ((nI_eq (by omega) (by omega)).mp e)⟩)]
        · by_cases x0 : x' = 0
          · rw [x0, if_pos (show nI 0 ≤ (0 : Int32) by decide)]
          · rw [if_neg (nI_nle (by omega) (by omega)), if_neg (fun e => en ⟨by omega, Or.inl ((r0_iff (by omega)).mp e)⟩), if_neg (fun e => en ⟨by omega, Or.inr ((nI_eq (by omega) (by omega)).mp e)⟩)]
    · rw [if_neg q59]
      have hbad := Cs_bad (f := f') (c := c') (t := t') hn hT hi1 h32 (fun e => absurd e q59) (h9.imp id (fun z => fe.1.mpr (Or.inr (by omega))))
      exact Or.inl ⟨i', e6, rfl, rfl, hbad⟩
theorem F_rd0 (le : Int32) (tx : Nat → Int32) (g : Nat) (he ro wi : Int32) (to : Int64) : F_X8_reads_25 le tx (fun z4 z5 z6 z7 z8 => (z4, z5, z6, z7, z8)) g 0 he ro wi to = (0, he, ro, wi, to) := by
  cases g with
  | zero => rfl
  | succ g => rw [F_X8_reads_25, if_pos rfl]
theorem F_rds {n : Nat} (hn : n ≤ 40) {le tx : Nat → Int32} (hT : ∀ k, k < n → le k = tx k) : ∀ (g r w i f c : Nat) (t m : Int64), r ≤ 4 → 6 ≤ r + g → (r = 0 ∨ 1 ≤ w) → w ≤ 4 → i ≤ n → n < i + f → c = w * r → NR c t m → (r = 0 → ¬ (f_X8_isMore (nI n) (nI i) tx).1 = 0) →
    (∃ j, j ≤ n ∧ (F_X8_reads_25 (nI n) tx (fun z4 z5 z6 z7 z8 => (z4, z5, z6, z7, z8)) g 1 (nI i) (nI r) (nI w) m).1 = 0 ∧ (F_X8_reads_25 (nI n) tx (fun z4 z5 z6 z7 z8 => (z4, z5, z6, z7, z8)) g 1 (nI i) (nI r) (nI w) m).2.1 = nI j ∧ (Cs n le f c 0 i r w t).1 = nI j) ∨ (∃ (a b : Nat) (he : Int32) (t' m' : Int64), gOK a b ∧ F_X8_reads_25 (nI n) tx (fun z4 z5 z6 z7 z8 => (z4, z5, z6, z7, z8)) g 1 (nI i) (nI r) (nI w) m = (1, he, nI b, nI a, m') ∧ Cs n le f c 0 i r w t = (-1, nI b, nI a, t') ∧ NR (a * b) t' m') := by
  intro g
  induction g with
  | zero => intro r w i f c t m h1 h2; exact absurd h2 (by omega)
  | succ g ih =>
    intro r w i f c t m hr hg hw1 hw hi hf hc hN hm
    rw [F_X8_reads_25, if_neg (show ¬ (1 : Int32) = 0 by decide), bd]
    obtain ⟨i1, f1, g1, g2, g3, g4, g5, g6⟩ := Cs_skip hn hT (n - i) i f (by omega) hf
    rw [g5, g6]
    rw [g5] at hm
    by_cases q : i1 = n
    · subst q
      rw [im_end hn] at hm ⊢
      have r0 : ¬ r = 0 := fun e => absurd rfl (hm e)
      obtain ⟨f1, rfl⟩ : ∃ g, f1 = g + 1 := ⟨f1 - 1, by omega⟩
      rw [if_pos rfl, Cs_end hn, if_neg (fun e => r0 ((r0_iff (by omega)).mp e)), if_pos (show nI 0 ≤ (0 : Int32) by decide)]
      refine Or.inr ⟨w, r, nI i1, t, m, ⟨⟨by omega, hw⟩, by omega, hr⟩, rfl, rfl, ?_⟩
      rw [← hc]; exact hN
    · have h32 := g4.resolve_left q
      have hi1 : i1 < n := by omega
      have him := im_at (le := nI n) (he := nI i1) (tx := tx) (nI_ge (by omega) (by omega)) (by rw [nI_clamp (by omega)]; exact h32)
      rw [him]
      dsimp only
      rw [if_neg (show ¬ (1 : Int32) = 0 by decide)]
      by_cases q4 : 4 ≤ r
      · rw [if_pos (lit_le 4 4 rfl q4 (by omega)), F_rd0]
        obtain ⟨f1, rfl⟩ : ∃ g, f1 = g + 1 := ⟨f1 - 1, by omega⟩
        have fe := fe_all ⟨0, by omega⟩ ⟨r, by omega⟩ ⟨w, by omega⟩
        simp only at fe
        exact Or.inl ⟨i1, g2, rfl, rfl, Cs_bad hn hT hi1 h32 (fun _ => fe.2.mpr (by omega)) (Or.inr (fe.1.mpr (Or.inl q4)))⟩
      · rw [if_neg (lit_nle 4 4 rfl (by omega) (by decide)), bd]
        rcases row_val hn hT (show r < 4 by omega) hw g2 g3 hc hN (by rw [him]; exact (by decide : ¬ (1 : Int32) = 0)) with ⟨i', k1, k2, k3, k4⟩ | ⟨i', x', f', c', t', m', k1, k2, k3, ⟨k4, k5⟩, k6, k7⟩
        · rw [if_pos k2, F_rd0]
          exact Or.inl ⟨i', k1, rfl, k3, k4⟩
        · rw [k1, k2]
          dsimp only
          rw [if_neg (show ¬ (1 : Int32) = 0 by decide)]
          exact ih (r + 1) x' i' f' c' t' m' (by omega) (by omega) (Or.inr k3.1) k3.2 k6 k7 k4 k5 (fun z => absurd z (by omega))
theorem fld0_all : ∀ k : Fin 16, fld 3 0 k.val = 0 ∧ fld 4 0 k.val = 0 := by decide +kernel
theorem text_sim {t_n m_le : Int32} {t_le m_tx : Nat → Int32} (h : RText t_n t_le m_le m_tx) :
    (∃ j, j ≤ 40 ∧ (f_X8_reads m_le m_tx).1 = 0 ∧ (f_X8_reads m_le m_tx).2.1 = nI j ∧ (f_X6_read t_n t_le).1 = nI j) ∨ (∃ (a b : Nat) (he : Int32) (t' m' : Int64), gOK a b ∧ f_X8_reads m_le m_tx = (1, he, nI b, nI a, m') ∧ f_X6_read t_n t_le = (-1, nI b, nI a, t') ∧ NR (a * b) t' m') := by
  obtain ⟨n, hn, rfl, rfl, hT⟩ := h
  have e0 : f_X6_read (nI n) t_le = Cs n t_le (n + 1) 0 0 0 0 0 0 := by
    rw [f_X6_read, fuN (by omega)]
    rfl
  obtain ⟨i1, f1, g1, g2, g3, g4, g5, g6⟩ := Cs_skip hn hT n 0 (n + 1) (by omega) (by omega)
  rw [e0, g6, f_X8_reads, bd]
  rw [show nI 0 = (0 : Int32) from rfl] at g5
  rw [g5]
  by_cases q : i1 = n
  · subst q
    obtain ⟨f1, rfl⟩ : ∃ g, f1 = g + 1 := ⟨f1 - 1, by omega⟩
    rw [im_end hn, F_rd0, Cs_end hn, if_pos (show nI 0 = (0 : Int32) from rfl)]
    exact Or.inl ⟨i1, hn, rfl, rfl, rfl⟩
  · have h32 := g4.resolve_left q
    have him := im_at (le := nI n) (he := nI i1) (tx := m_tx) (nI_ge (by omega) (by omega)) (by rw [nI_clamp (by omega)]; exact h32)
    rw [him]
    rcases F_rds hn hT 6 0 0 i1 f1 0 0 0 (by omega) (by omega) (Or.inl rfl) (by omega) g2 g3 rfl (fun k hk => ⟨fun z => absurd z (by omega), fun _ => fld0_all ⟨k, hk⟩⟩) (fun _ => by rw [him]; exact (by decide : ¬ (1 : Int32) = 0)) with ⟨j, k1, k2, k3, k4⟩ | k
    · exact Or.inl ⟨j, by omega, k2, k3, k4⟩
    · exact Or.inr k
