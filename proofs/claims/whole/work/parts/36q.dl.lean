/-! loops: what the class's search finds, in which order -/
theorem dl_mem {a b : Nat} (hg : gOK a b) {ft : Nat → Int64 → Bool} {tk : Int64 → Bool} {ro : Nat → Int64} (hro : ∀ c, c < a * b → ro c = lN (roN a b c)) : ∀ c, c ≤ a * b → ∀ w, Sp a b w → (∀ k, k < c → w k = false) → ∀ y, y ∈ dl ft tk ro (fun c => csN a b c 3) c (aR a b w) ↔ ∃ v, Sp a b v ∧ (∀ k, c ≤ k → v k = w k) ∧ y = aR a b v ∧ tk y = true ∧ ∀ j, j < c → ft j (aR a b (rs j v)) = true := by
  have hn := gOK_lt hg
  intro c
  induction c with
  | zero =>
    intro _ w hw h0 y
    rw [dl]
    constructor
    · intro hy
      split at hy
      · rename_i ht
        have e : y = aR a b w := by simpa using hy
        exact ⟨w, hw, fun _ _ => rfl, e, by rw [e]; exact ht, fun j hj => absurd hj (by omega)⟩
      · exact absurd hy (by simp)
    · rintro ⟨v, _, hv, e, ht, _⟩
      have e2 : aR a b v = aR a b w := aR_ext hg (fun k _ => hv k (by omega))
      rw [← e2, ← e, if_pos ht]; simp
  | succ c ih =>
    intro hc w hw h0 y
    have hwc : w c = false := h0 c (by omega)
    have hw2 : Sp a b (wX w c) := fun k hk => by
      unfold wX
      rw [hw k hk, decide_eq_false (by omega)]; rfl
    have h01 : ∀ k, k < c → w k = false := fun k hk => h0 k (by omega)
    have h02 : ∀ k, k < c → wX w c k = false := fun k hk => by
      unfold wX
      rw [h0 k (by omega), decide_eq_false (by omega)]; rfl
    have i1 := ih (by omega) w hw h01 y
    have i2 := ih (by omega) (wX w c) hw2 h02 y
    rw [aR_xor hg w c, ← hro c (by omega)] at i2
    have key : y ∈ dl ft tk ro (fun c => csN a b c 3) (c + 1) (aR a b w) ↔ (ft c (aR a b w) = true ∧ y ∈ dl ft tk ro (fun c => csN a b c 3) c (aR a b w)) ∨ (ft c (aR a b w ^^^ ro c) = true ∧ y ∈ dl ft tk ro (fun c => csN a b c 3) c (aR a b w ^^^ ro c)) := by
      have m1 : ∀ z : Int64, (y ∈ (if ft c z = true then dl ft tk ro (fun c => csN a b c 3) c z else [])) ↔ (ft c z = true ∧ y ∈ dl ft tk ro (fun c => csN a b c 3) c z) := fun z => by
        by_cases q : ft c z = true
        · rw [if_pos q]; simp [q]
        · rw [if_neg q]; simp [q]
      rw [dl]
      by_cases q : bt (aR a b w) (csN a b c 3) = true
      · rw [if_pos q, List.mem_append, m1, m1]; exact Or.comm
      · rw [if_neg q, List.mem_append, m1, m1]
    have er : ∀ v w' : Nat → Bool, (∀ k, c ≤ k → v k = w' k) → (∀ k, k < c → w' k = false) → aR a b (rs c v) = aR a b w' := fun v w' hv h => aR_ext hg (fun k _ => by
      unfold rs
      rcases Nat.lt_or_ge k c with q | q
      · rw [decide_eq_false (by omega), h k q]; rfl
      · rw [decide_eq_true q, hv k q]; rfl)
    rw [key, i1, i2]
    constructor
    · rintro (⟨f1, v, s1, s2, s3, s4, s5⟩ | ⟨f1, v, s1, s2, s3, s4, s5⟩)
      · refine ⟨v, s1, fun k hk => s2 k (by omega), s3, s4, fun j hj => ?_⟩
        by_cases q : j = c
        · subst q; rw [er v w s2 h01]; exact f1
        · exact s5 j (by omega)
      · refine ⟨v, s1, fun k hk => ?_, s3, s4, fun j hj => ?_⟩
        · rw [s2 k (by omega)]
          unfold wX
          rw [decide_eq_false (by omega)]; simp
        · by_cases q : j = c
          · subst q; rw [er v _ s2 h02, aR_xor hg, ← hro j (by omega)]; exact f1
          · exact s5 j (by omega)
    · rintro ⟨v, s1, s2, s3, s4, s5⟩
      by_cases q : v c = true
      · right
        have hv : ∀ k, c ≤ k → v k = wX w c k := fun k hk => by
          unfold wX
          by_cases e : k = c
          · subst e; rw [q, hwc]; simp
          · rw [s2 k (by omega), decide_eq_false e]; simp
        refine ⟨?_, v, s1, hv, s3, s4, fun j hj => s5 j (by omega)⟩
        have := s5 c (by omega)
        rw [er v _ hv h02, aR_xor hg, ← hro c (by omega)] at this
        exact this
      · left
        have hv : ∀ k, c ≤ k → v k = w k := fun k hk => by
          by_cases e : k = c
          · subst e; rw [hwc]; simpa using q
          · exact s2 k (by omega)
        refine ⟨?_, v, s1, hv, s3, s4, fun j hj => s5 j (by omega)⟩
        have := s5 c (by omega)
        rw [er v _ hv h01] at this
        exact this
theorem inS_rt {a b c : Nat} (hg : gOK a b) (hc : c < a * b) : inS a b c (csN a b c 3) = true := by
  have hn := gOK_lt hg
  obtain ⟨⟨h1, h2, h3, _⟩, _⟩ := rt_ok hg hc
  unfold inS
  rw [decide_eq_true h1, h2, decide_eq_true (show c ≤ c by omega)]
  rcases h3 with e | e <;> rw [e] <;> simp <;> omega
theorem dl_srt {a b : Nat} (hg : gOK a b) {ft : Nat → Int64 → Bool} {tk : Int64 → Bool} {ro : Nat → Int64} (hro : ∀ c, c < a * b → ro c = lN (roN a b c)) : ∀ c, c ≤ a * b → ∀ w, Sp a b w → (∀ k, k < c → w k = false) → (dl ft tk ro (fun c => csN a b c 3) c (aR a b w)).Pairwise (fun x y => x.toBitVec.toNat < y.toBitVec.toNat) := by
  have hn := gOK_lt hg
  intro c
  induction c with
  | zero =>
    intro _ w hw h0
    rw [dl]
    split
    · exact List.pairwise_singleton _ _
    · exact List.Pairwise.nil
  | succ c ih =>
    intro hc w hw h0
    have hwc : w c = false := h0 c (by omega)
    have hw2 : Sp a b (wX w c) := fun k hk => by
      unfold wX
      rw [hw k hk, decide_eq_false (by omega)]; rfl
    have h01 : ∀ k, k < c → w k = false := fun k hk => h0 k (by omega)
    have h02 : ∀ k, k < c → wX w c k = false := fun k hk => by
      unfold wX
      rw [h0 k (by omega), decide_eq_false (by omega)]; rfl
    have p1 := ih (by omega) w hw h01
    have p2 := ih (by omega) (wX w c) hw2 h02
    have m1 := dl_mem hg (ft := ft) (tk := tk) hro c (by omega) w hw h01
    have m2 := dl_mem hg (ft := ft) (tk := tk) hro c (by omega) (wX w c) hw2 h02
    rw [aR_xor hg w c, ← hro c (by omega)] at p2 m2
    obtain ⟨⟨r1, r2, r3, _⟩, r5⟩ := rt_ok hg (show c < a * b by omega)
    have rS := inS_rt hg (show c < a * b by omega)
    -- the two kinds, told apart by the side right of the cell
    have hx : bt (aR a b (wX w c)) (csN a b c 3) = !bt (aR a b w) (csN a b c 3) := by
      rw [aR_xor hg, bt_xor, ro_bit' hg]
      have : inC a b c (csN a b c 3) = true := by
        unfold inC
        rw [decide_eq_true r1, r2]; simp
      rw [this]; simp
    have lt : ∀ w1 w2 : Nat → Bool, (∀ k, c + 1 ≤ k → w1 k = w2 k) → bt (aR a b w1) (csN a b c 3) = false → bt (aR a b w2) (csN a b c 3) = true → ∀ v1 v2 : Nat → Bool, (∀ k, c ≤ k → v1 k = w1 k) → (∀ k, c ≤ k → v2 k = w2 k) → (aR a b v1).toBitVec.toNat < (aR a b v2).toBitVec.toNat := by
      intro w1 w2 hw12 b1 b2 v1 v2 hv1 hv2
      refine tn_lt_of (r := csN a b c 3) ?_ ?_ ?_
      · rw [aR_set hg (fun k hk _ => hv1 k hk) rS]; exact b1
      · rw [aR_set hg (fun k hk _ => hv2 k hk) rS]; exact b2
      · intro s hs
        rcases Nat.lt_or_ge s (sdN a b) with q | q
        · exact aR_set hg (c := c + 1) (fun k hk _ => by rw [hv1 k (by omega), hv2 k (by omega), hw12 k hk]) (r5 s hs q)
        · rw [aR_bit hg, aR_bit hg, inA_out _ _ q, inA_out _ _ q]
    have hwx : ∀ k, c + 1 ≤ k → wX w c k = w k := fun k hk => by
      unfold wX
      rw [decide_eq_false (by omega)]; simp
    have if_P : ∀ z : Int64, (dl ft tk ro (fun c => csN a b c 3) c z).Pairwise (fun x y => x.toBitVec.toNat < y.toBitVec.toNat) → (if ft c z = true then dl ft tk ro (fun c => csN a b c 3) c z else []).Pairwise (fun x y => x.toBitVec.toNat < y.toBitVec.toNat) := fun z hz => by
      split
      · exact hz
      · exact List.Pairwise.nil
    have if_M : ∀ (z y : Int64), y ∈ (if ft c z = true then dl ft tk ro (fun c => csN a b c 3) c z else []) → y ∈ dl ft tk ro (fun c => csN a b c 3) c z := fun z y hy => by
      split at hy
      · exact hy
      · exact absurd hy (by simp)
    rw [dl]
    by_cases q : bt (aR a b w) (csN a b c 3) = true
    · rw [if_pos q]
      refine lt_Pw (if_P _ p2) (if_P _ p1) (fun y1 h1 y2 h2 => ?_)
      obtain ⟨v1, _, e1, rfl, _⟩ := (m2 y1).mp (if_M _ _ h1)
      obtain ⟨v2, _, e2, rfl, _⟩ := (m1 y2).mp (if_M _ _ h2)
      exact lt (wX w c) w hwx (by rw [hx, q]; rfl) q v1 v2 e1 e2
    · rw [if_neg q]
      have q' : bt (aR a b w) (csN a b c 3) = false := by simpa using q
      refine lt_Pw (if_P _ p1) (if_P _ p2) (fun y1 h1 y2 h2 => ?_)
      obtain ⟨v1, _, e1, rfl, _⟩ := (m1 y1).mp (if_M _ _ h1)
      obtain ⟨v2, _, e2, rfl, _⟩ := (m2 y2).mp (if_M _ _ h2)
      exact lt w (wX w c) (fun k hk => (hwx k hk).symm) q' (by rw [hx, q']; rfl) v1 v2 e1 e2
def ftC (l bb n : Int64) (cs ha : Nat → Int32) (ro se co : Nat → Int64) (c : Nat) (y : Int64) : Bool := decide (¬ f_X1_fits (nI c) y l bb n cs ha ro se co = 0)
def tkC (be : Nat → Int64) (x : Int64) : Bool := decide (¬ lg_cmp x 0 = 0) && decide (lg_cmp (f_X4_chainOf x (f_J13_numberOfTrailingZeros_95d88 x) be) x = 0)
theorem dec_val {a b : Nat} (hg : gOK a b) {l bb n : Int64} {cs ha : Nat → Int32} {ro be se co : Nat → Int64} (hcs : ∀ c, c < a * b → cs (4 * c + 3) = nI (csN a b c 3)) : ∀ c, c ≤ a * b → ∀ (f z : Nat) (x : Int64) (A : Nat → Int64), c < f → z ≤ 10000 →
    f_X1_decide l bb n cs ha ro be se co f (nI c - 1) x (nI z) A = (nI ((dl (ftC l bb n cs ha ro se co) (tkC be) ro (fun c => csN a b c 3) c x).foldl (pt 10000) (z, A)).1, ((dl (ftC l bb n cs ha ro se co) (tkC be) ro (fun c => csN a b c 3) c x).foldl (pt 10000) (z, A)).2) := by
  have hn := gOK_lt hg
  intro c
  induction c with
  | zero =>
    intro _ f z x A hf hz
    obtain ⟨f, rfl⟩ : ∃ g, f = g + 1 := ⟨f - 1, by omega⟩
    rw [f_X1_decide, dl]
    by_cases q : z < 10000
    · rw [if_pos (show nI z < 10000 from nI_lt (b := 10000) q (by decide)), if_neg (show ¬ (0 : Int32) ≤ nI 0 - 1 by decide), bd, f_X1_takeRing]
      by_cases q1 : lg_cmp x 0 = 0
      · have e : tkC be x = false := by unfold tkC; rw [decide_eq_false (by simpa using q1)]; rfl
        rw [if_pos q1, e, if_neg (by decide)]; rfl
      · rw [if_neg q1]
        by_cases q2 : lg_cmp (f_X4_chainOf x (f_J13_numberOfTrailingZeros_95d88 x) be) x = 0
        · have e : tkC be x = true := by unfold tkC; rw [decide_eq_true q1, decide_eq_true q2]; rfl
          rw [if_pos q2, if_neg (nI_pos (by omega)), if_neg (show ¬ (10000 : Int32) ≤ nI z from nI_ge (a := z) (b := 10000) q (by decide)), e, if_pos rfl, nI_1, nI_clamp (by omega), List.foldl_cons, List.foldl_nil, pt, if_pos q]
        · have e : tkC be x = false := by unfold tkC; rw [decide_eq_true q1, decide_eq_false q2]; rfl
          rw [if_neg q2, e, if_neg (by decide)]; rfl
    · have e : z = 10000 := by omega
      subst e
      rw [if_neg (show ¬ nI 10000 < 10000 by decide), pt_full]
  | succ c ih =>
    intro hc f z x A hf hz
    obtain ⟨f, rfl⟩ : ∃ g, f = g + 1 := ⟨f - 1, by omega⟩
    rw [f_X1_decide, nI_pred]
    by_cases q : z < 10000
    · have hs : f_X4_sideOfCell (nI c) 3 cs = nI (csN a b c 3) := by
        rw [f_X4_sideOfCell, show (4 : Int32) = nI 4 from rfl, show (3 : Int32) = nI 3 from rfl, pk_mul, nI_add, atI_val _ (by omega) (by decide), Nat.mul_comm c 4]
        exact hcs c (by omega)
      have hr := (rt_ok hg (show c < a * b by omega)).1.1
      have hr64 : csN a b c 3 < 64 := by omega
      have hft : ∀ y, (f_X1_fits (nI c) y l bb n cs ha ro se co = 0) ↔ ¬ ftC l bb n cs ha ro se co c y = true := fun y => by
        show (f_X1_fits (nI c) y l bb n cs ha ro se co = 0) ↔ _
        unfold ftC; simp
      have IH := ih (by omega) f
      rw [if_pos (show nI z < 10000 from nI_lt (b := 10000) q (by decide)), if_pos (nI_pos' (by omega)), hs, ro_at (by omega), dl]
      simp only [bd]
      rw [show f_X7_bit (nI (csN a b c 3)) = shlL 1 (nI (csN a b c 3)) from rfl]
      have two : ∀ y1 y2 : Int64, (if f_X1_fits (nI c) y1 l bb n cs ha ro se co = 0 then (if f_X1_fits (nI c) y2 l bb n cs ha ro se co = 0 then (nI z, A) else ((f_X1_decide l bb n cs ha ro be se co f (nI c - 1) y2 (nI z) A).1, (f_X1_decide l bb n cs ha ro be se co f (nI c - 1) y2 (nI z) A).2)) else (if f_X1_fits (nI c) y2 l bb n cs ha ro se co = 0 then ((f_X1_decide l bb n cs ha ro be se co f (nI c - 1) y1 (nI z) A).1, (f_X1_decide l bb n cs ha ro be se co f (nI c - 1) y1 (nI z) A).2) else ((f_X1_decide l bb n cs ha ro be se co f (nI c - 1) y2 (f_X1_decide l bb n cs ha ro be se co f (nI c - 1) y1 (nI z) A).1 (f_X1_decide l bb n cs ha ro be se co f (nI c - 1) y1 (nI z) A).2).1, (f_X1_decide l bb n cs ha ro be se co f (nI c - 1) y2 (f_X1_decide l bb n cs ha ro be se co f (nI c - 1) y1 (nI z) A).1 (f_X1_decide l bb n cs ha ro be se co f (nI c - 1) y1 (nI z) A).2).2))) =
          (nI ((((if ftC l bb n cs ha ro se co c y1 = true then dl (ftC l bb n cs ha ro se co) (tkC be) ro (fun c => csN a b c 3) c y1 else []) ++ (if ftC l bb n cs ha ro se co c y2 = true then dl (ftC l bb n cs ha ro se co) (tkC be) ro (fun c => csN a b c 3) c y2 else [])).foldl (pt 10000) (z, A)).1), (((if ftC l bb n cs ha ro se co c y1 = true then dl (ftC l bb n cs ha ro se co) (tkC be) ro (fun c => csN a b c 3) c y1 else []) ++ (if ftC l bb n cs ha ro se co c y2 = true then dl (ftC l bb n cs ha ro se co) (tkC be) ro (fun c => csN a b c 3) c y2 else [])).foldl (pt 10000) (z, A)).2) := by
        intro y1 y2
        rw [List.foldl_append]
        by_cases g1 : ftC l bb n cs ha ro se co c y1 = true
        · rw [if_neg (fun e => (hft y1).mp e g1), if_pos g1]
          rw [IH z y1 A (by omega) hz]
          have hz2 := (pt_val (cap := 10000) (dl (ftC l bb n cs ha ro se co) (tkC be) ro (fun c => csN a b c 3) c y1) z A hz).1
          generalize (dl (ftC l bb n cs ha ro se co) (tkC be) ro (fun c => csN a b c 3) c y1).foldl (pt 10000) (z, A) = U at hz2 ⊢
          by_cases g2 : ftC l bb n cs ha ro se co c y2 = true
          · rw [if_neg (fun e => (hft y2).mp e g2), if_pos g2]
            rw [IH U.1 y2 U.2 (by omega) (by omega)]
          · rw [if_pos ((hft y2).mpr g2), if_neg g2]; rfl
        · rw [if_pos ((hft y1).mpr g1), if_neg g1]
          by_cases g2 : ftC l bb n cs ha ro se co c y2 = true
          · rw [if_neg (fun e => (hft y2).mp e g2), if_pos g2, IH z y2 A (by omega) hz]; rfl
          · rw [if_pos ((hft y2).mpr g2), if_neg g2]; rfl
      by_cases g : bt x (csN a b c 3) = true
      · rw [if_neg (by rw [and_one_iff hr64, g]; simp), if_pos g]
        exact two _ _
      · rw [if_pos ((and_one_iff hr64).mpr (by simpa using g)), if_neg g]
        exact two _ _
    · have e : z = 10000 := by omega
      subst e
      rw [if_neg (show ¬ nI 10000 < 10000 by decide), pt_full]
theorem dec_val_b {a b : Nat} (hg : gOK a b) {l bb n : Int64} {cs ha : Nat → Int32} {ro be se co : Nat → Int64} (hcs : ∀ c, c < a * b → cs (4 * c + 3) = nI (csN a b c 3)) : ∀ c, c ≤ a * b → ∀ (f z : Nat) (x : Int64) (A : Nat → Int64), c < f → z ≤ 2 →
    f_X1_decide_b l bb n cs ha ro be se co f (nI c - 1) x (nI z) A = (nI ((dl (ftC l bb n cs ha ro se co) (tkC be) ro (fun c => csN a b c 3) c x).foldl (pt 2) (z, A)).1, ((dl (ftC l bb n cs ha ro se co) (tkC be) ro (fun c => csN a b c 3) c x).foldl (pt 2) (z, A)).2) := by
  have hn := gOK_lt hg
  intro c
  induction c with
  | zero =>
    intro _ f z x A hf hz
    obtain ⟨f, rfl⟩ : ∃ g, f = g + 1 := ⟨f - 1, by omega⟩
    rw [f_X1_decide_b, dl]
    by_cases q : z < 2
    · rw [if_pos (show nI z < 2 from nI_lt (b := 2) q (by decide)), if_neg (show ¬ (0 : Int32) ≤ nI 0 - 1 by decide), bd, f_X1_takeRing_b]
      by_cases q1 : lg_cmp x 0 = 0
      · have e : tkC be x = false := by unfold tkC; rw [decide_eq_false (by simpa using q1)]; rfl
        rw [if_pos q1, e, if_neg (by decide)]; rfl
      · rw [if_neg q1]
        by_cases q2 : lg_cmp (f_X4_chainOf x (f_J13_numberOfTrailingZeros_95d88 x) be) x = 0
        · have e : tkC be x = true := by unfold tkC; rw [decide_eq_true q1, decide_eq_true q2]; rfl
          rw [if_pos q2, if_neg (nI_pos (by omega)), if_neg (show ¬ (2 : Int32) ≤ nI z from nI_ge (a := z) (b := 2) q (by decide)), e, if_pos rfl, nI_1, nI_clamp (by omega), List.foldl_cons, List.foldl_nil, pt, if_pos q]
        · have e : tkC be x = false := by unfold tkC; rw [decide_eq_true q1, decide_eq_false q2]; rfl
          rw [if_neg q2, e, if_neg (by decide)]; rfl
    · have e : z = 2 := by omega
      subst e
      rw [if_neg (show ¬ nI 2 < 2 by decide), pt_full]
  | succ c ih =>
    intro hc f z x A hf hz
    obtain ⟨f, rfl⟩ : ∃ g, f = g + 1 := ⟨f - 1, by omega⟩
    rw [f_X1_decide_b, nI_pred]
    by_cases q : z < 2
    · have hs : f_X4_sideOfCell (nI c) 3 cs = nI (csN a b c 3) := by
        rw [f_X4_sideOfCell, show (4 : Int32) = nI 4 from rfl, show (3 : Int32) = nI 3 from rfl, pk_mul, nI_add, atI_val _ (by omega) (by decide), Nat.mul_comm c 4]
        exact hcs c (by omega)
      have hr := (rt_ok hg (show c < a * b by omega)).1.1
      have hr64 : csN a b c 3 < 64 := by omega
      have hft : ∀ y, (f_X1_fits_b (nI c) y l bb n cs ha ro se co = 0) ↔ ¬ ftC l bb n cs ha ro se co c y = true := fun y => by
        show (f_X1_fits (nI c) y l bb n cs ha ro se co = 0) ↔ _
        unfold ftC; simp
      have IH := ih (by omega) f
      rw [if_pos (show nI z < 2 from nI_lt (b := 2) q (by decide)), if_pos (nI_pos' (by omega)), hs, ro_at (by omega), dl]
      simp only [bd]
      rw [show f_X7_bit (nI (csN a b c 3)) = shlL 1 (nI (csN a b c 3)) from rfl]
      have two : ∀ y1 y2 : Int64, (if f_X1_fits_b (nI c) y1 l bb n cs ha ro se co = 0 then (if f_X1_fits_b (nI c) y2 l bb n cs ha ro se co = 0 then (nI z, A) else ((f_X1_decide_b l bb n cs ha ro be se co f (nI c - 1) y2 (nI z) A).1, (f_X1_decide_b l bb n cs ha ro be se co f (nI c - 1) y2 (nI z) A).2)) else (if f_X1_fits_b (nI c) y2 l bb n cs ha ro se co = 0 then ((f_X1_decide_b l bb n cs ha ro be se co f (nI c - 1) y1 (nI z) A).1, (f_X1_decide_b l bb n cs ha ro be se co f (nI c - 1) y1 (nI z) A).2) else ((f_X1_decide_b l bb n cs ha ro be se co f (nI c - 1) y2 (f_X1_decide_b l bb n cs ha ro be se co f (nI c - 1) y1 (nI z) A).1 (f_X1_decide_b l bb n cs ha ro be se co f (nI c - 1) y1 (nI z) A).2).1, (f_X1_decide_b l bb n cs ha ro be se co f (nI c - 1) y2 (f_X1_decide_b l bb n cs ha ro be se co f (nI c - 1) y1 (nI z) A).1 (f_X1_decide_b l bb n cs ha ro be se co f (nI c - 1) y1 (nI z) A).2).2))) =
          (nI ((((if ftC l bb n cs ha ro se co c y1 = true then dl (ftC l bb n cs ha ro se co) (tkC be) ro (fun c => csN a b c 3) c y1 else []) ++ (if ftC l bb n cs ha ro se co c y2 = true then dl (ftC l bb n cs ha ro se co) (tkC be) ro (fun c => csN a b c 3) c y2 else [])).foldl (pt 2) (z, A)).1), (((if ftC l bb n cs ha ro se co c y1 = true then dl (ftC l bb n cs ha ro se co) (tkC be) ro (fun c => csN a b c 3) c y1 else []) ++ (if ftC l bb n cs ha ro se co c y2 = true then dl (ftC l bb n cs ha ro se co) (tkC be) ro (fun c => csN a b c 3) c y2 else [])).foldl (pt 2) (z, A)).2) := by
        intro y1 y2
        rw [List.foldl_append]
        by_cases g1 : ftC l bb n cs ha ro se co c y1 = true
        · rw [if_neg (fun e => (hft y1).mp e g1), if_pos g1]
          rw [IH z y1 A (by omega) hz]
          have hz2 := (pt_val (cap := 2) (dl (ftC l bb n cs ha ro se co) (tkC be) ro (fun c => csN a b c 3) c y1) z A hz).1
          generalize (dl (ftC l bb n cs ha ro se co) (tkC be) ro (fun c => csN a b c 3) c y1).foldl (pt 2) (z, A) = U at hz2 ⊢
          by_cases g2 : ftC l bb n cs ha ro se co c y2 = true
          · rw [if_neg (fun e => (hft y2).mp e g2), if_pos g2]
            rw [IH U.1 y2 U.2 (by omega) (by omega)]
          · rw [if_pos ((hft y2).mpr g2), if_neg g2]; rfl
        · rw [if_pos ((hft y1).mpr g1), if_neg g1]
          by_cases g2 : ftC l bb n cs ha ro se co c y2 = true
          · rw [if_neg (fun e => (hft y2).mp e g2), if_pos g2, IH z y2 A (by omega) hz]; rfl
          · rw [if_pos ((hft y2).mpr g2), if_neg g2]; rfl
      by_cases g : bt x (csN a b c 3) = true
      · rw [if_neg (by rw [and_one_iff hr64, g]; simp), if_pos g]
        exact two _ _
      · rw [if_pos ((and_one_iff hr64).mpr (by simpa using g)), if_neg g]
        exact two _ _
    · have e : z = 2 := by omega
      subst e
      rw [if_neg (show ¬ nI 2 < 2 by decide), pt_full]
