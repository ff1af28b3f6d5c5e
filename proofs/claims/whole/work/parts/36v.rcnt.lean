/-! loops: how many rings a grid has at most -/
theorem cnt_pos {x : Int64} {k : Nat} (h : bt x k = true) : 1 ≤ cnt x := by
  by_cases q : cnt x = 0
  · rw [cnt_z q, bt_zero] at h; exact absurd h (by decide)
  · omega
theorem half {a b : Nat} (hg : gOK a b) {v v' : Nat → Bool} (hv : Sp a b v) (hv' : Sp a b v') {x : Int64} (hx : ∀ k, bt x k = (bt (aR a b v) k || bt (aR a b v') k)) (hd : ∀ k, bt (aR a b v) k = true → bt (aR a b v') k = true → False) (hdeg : ∀ p, p < (a + 1) * (b + 1) → cnt (lN (meN a b p) &&& x) = 0 ∨ cnt (lN (meN a b p) &&& x) = 2) {t : Nat} (ht : t < 64) (hL : Least a b (shlL 1 (nI t)) x x) (hb : bt (aR a b v) t = true) : Sub x (aR a b v) := by
  refine hL.2.2 _ (fun k hk => ?_) (fun p k j hp h1 h2 h3 h4 => ?_)
  · rw [bt_one_shl ht] at hk
    have : k = t := by simpa using hk
    subst this; exact hb
  · by_cases q : bt (aR a b v) j = true
    · exact q
    · exfalso
      have hz : bt (aR a b v') j = true := by
        rw [hx j] at h4
        revert h4 q
        cases bt (aR a b v) j <;> cases bt (aR a b v') j <;> simp
      have c1 : 1 ≤ cnt (lN (meN a b p) &&& aR a b v) := cnt_pos (k := k) (by rw [bt_and, me_bit' hg, h2, h1]; rfl)
      have c2 : 1 ≤ cnt (lN (meN a b p) &&& aR a b v') := cnt_pos (k := j) (by rw [bt_and, me_bit' hg, h3, hz]; rfl)
      have p1 := par hg hp hv
      have p2 := par hg hp hv'
      have s := cnt_split (lN (meN a b p) &&& x) (aR a b v)
      have e1 : (lN (meN a b p) &&& x) &&& aR a b v = lN (meN a b p) &&& aR a b v := bt_all_ext (fun i => by
        rw [bt_and, bt_and, bt_and, hx i]
        cases bt (lN (meN a b p)) i <;> cases bt (aR a b v) i <;> simp)
      have e2 : (lN (meN a b p) &&& x) &&& (aR a b v ^^^ (-1)) = lN (meN a b p) &&& aR a b v' := bt_ext (fun i hi => by
        rw [bt_and, bt_and, bt_and, bt_not _ hi, hx i]
        have := hd i
        revert this
        cases bt (lN (meN a b p)) i <;> cases bt (aR a b v) i <;> cases bt (aR a b v') i <;> simp)
      rw [e1, e2] at s
      have := hdeg p hp
      omega
def xW (v w : Nat → Bool) : Nat → Bool := fun k => v k ^^ w k
/-- a ring holds no other sides between cells than all its own -/
theorem ring_only {a b : Nat} (hg : gOK a b) {w v : Nat → Bool} (hw : Sp a b w) (hv : Sp a b v) (hs : Sub (aR a b v) (aR a b w)) (hdeg : ∀ p, p < (a + 1) * (b + 1) → cnt (lN (meN a b p) &&& aR a b w) = 0 ∨ cnt (lN (meN a b p) &&& aR a b w) = 2) (hC : Cn a b (aR a b w)) : aR a b v = 0 ∨ aR a b v = aR a b w := by
  obtain ⟨t, t1, t2, t3, hL⟩ := hC
  have hn := gOK_lt hg
  have hv' : Sp a b (xW v w) := fun c hc => by rw [xW, hv c hc, hw c hc]; rfl
  have bz : ∀ k, bt (aR a b (xW v w)) k = (bt (aR a b v) k ^^ bt (aR a b w) k) := fun k => by
    rw [aR_bit hg, aR_bit hg, aR_bit hg]
    unfold inA xW
    cases decide (k < sdN a b) <;> cases v (haN a b k 0) <;> cases v (haN a b k 1) <;> cases w (haN a b k 0) <;> cases w (haN a b k 1) <;> rfl
  have hx : ∀ k, bt (aR a b w) k = (bt (aR a b v) k || bt (aR a b (xW v w)) k) := fun k => by
    rw [bz k]
    have := hs k
    revert this
    cases bt (aR a b v) k <;> cases bt (aR a b w) k <;> simp
  have hd : ∀ k, bt (aR a b v) k = true → bt (aR a b (xW v w)) k = true → False := fun k h1 h2 => by
    rw [bz k, h1, hs k h1] at h2; exact absurd h2 (by decide)
  by_cases q : bt (aR a b v) t = true
  · right; exact Sub.anti hs (half hg hv hv' hx hd hdeg (by omega) hL q)
  · left
    have q' : bt (aR a b (xW v w)) t = true := by
      rw [bz t, t2]
      revert q
      cases bt (aR a b v) t <;> simp
    have h := half hg hv' hv (fun k => by rw [hx k, Bool.or_comm]) (fun k h1 h2 => hd k h2 h1) hdeg (by omega) hL q'
    exact bt_all_ext (fun k => by
      rw [bt_zero]
      by_cases z : bt (aR a b v) k = true
      · exact absurd (h k (hs k z)) (fun y => hd k z y)
      · revert z
        cases bt (aR a b v) k <;> simp)
/-! the grid of four by four, by numbers -/
def frc {α : Type} (n : Nat) (k : Nat → α) : α := match n with
  | 0 => k 0
  | m + 1 => k (Nat.succ m)
theorem frc_eq {α : Type} (n : Nat) (k : Nat → α) : frc n k = k n := by cases n <;> rfl
def dhN (W : Nat) : Nat := Nat.land (Nat.xor W (Nat.shiftRight W 1)) 30583
def dvN (W : Nat) : Nat := Nat.land (Nat.xor W (Nat.shiftRight W 4)) 4095
def eE (W : Nat) : Nat := Nat.land (Nat.land (dhN W) (Nat.shiftRight (dhN W) 4)) (Nat.land (Nat.land (dvN W) (Nat.shiftRight (dvN W) 1)) 1911)
def stp (M f : Nat) : Nat := Nat.land (Nat.lor f (Nat.lor (Nat.land (Nat.shiftLeft f 1) 61166) (Nat.lor (Nat.land (Nat.shiftRight f 1) 30583) (Nat.lor (Nat.shiftLeft f 4) (Nat.shiftRight f 4))))) M
def fll (M : Nat) : Nat → Nat → Nat
  | 0, f => f
  | n + 1, f => frc (stp M f) (fun g => bif Nat.beq g f then f else fll M n g)
def okV (W V : Nat) : Bool := Nat.beq (Nat.land V 65535) V && (Nat.beq (Nat.land (dhN V) (dhN W)) (dhN V) && (Nat.beq (Nat.land (dvN V) (dvN W)) (dvN V) && Nat.beq (Nat.land (Nat.land V 63903) W) (Nat.land V 63903)))
def badV (W V : Nat) : Bool := !(Nat.beq V W) && (!(Nat.beq V 0) && okV W V)
def tst (W : Nat) : Bool := bif Nat.beq (eE W) 0 then frc (fll W 16 (Nat.xor W (Nat.land W (Nat.pred W)))) (fun F => bif badV W F then false else frc (Nat.xor 65535 W) (fun M => frc (fll M 16 (Nat.land M 63903)) (fun O => frc (Nat.xor M O) (fun H => !(badV W H))))) else false
def cT : Nat → Nat → Nat
  | 0, W => frc W (fun w => bif tst w then 1 else 0)
  | d + 1, W => Nat.add (cT d W) (cT d (Nat.add W (Nat.pow 2 d)))
theorem ct_0 : cT 12 0 = 1050 := by decide +kernel
theorem ct_1 : cT 12 4096 = 469 := by decide +kernel
theorem ct_2 : cT 12 8192 = 614 := by decide +kernel
theorem ct_3 : cT 12 12288 = 684 := by decide +kernel
theorem ct_4 : cT 12 16384 = 614 := by decide +kernel
theorem ct_5 : cT 12 20480 = 290 := by decide +kernel
theorem ct_6 : cT 12 24576 = 693 := by decide +kernel
theorem ct_7 : cT 12 28672 = 825 := by decide +kernel
theorem ct_8 : cT 12 32768 = 469 := by decide +kernel
theorem ct_9 : cT 12 36864 = 213 := by decide +kernel
theorem ct_10 : cT 12 40960 = 290 := by decide +kernel
theorem ct_11 : cT 12 45056 = 311 := by decide +kernel
theorem ct_12 : cT 12 49152 = 684 := by decide +kernel
theorem ct_13 : cT 12 53248 = 311 := by decide +kernel
theorem ct_14 : cT 12 57344 = 825 := by decide +kernel
theorem ct_15 : cT 12 61440 = 1008 := by decide +kernel
def crt : Nat → Nat
  | 0 => 0
  | k + 1 => crt k + (if tst k = true then 1 else 0)
theorem cT_crt : ∀ d W, crt (W + 2 ^ d) = crt W + cT d W := by
  intro d
  induction d with
  | zero =>
    intro W
    rw [cT, frc_eq]
    show crt W + (if tst W = true then 1 else 0) = _
    cases tst W <;> rfl
  | succ d ih =>
    intro W
    rw [show W + 2 ^ (d + 1) = (W + 2 ^ d) + 2 ^ d by rw [Nat.pow_succ]; omega, ih, ih]
    show _ = crt W + (cT d W + cT d (W + 2 ^ d))
    omega
theorem crt_mono (k : Nat) : ∀ m, crt k ≤ crt (k + m) := by
  intro m
  induction m with
  | zero => exact Nat.le_refl _
  | succ m ih =>
    show crt k ≤ crt (k + m) + _
    omega
theorem crt_all : crt 65536 ≤ 9400 := by
  have h0 : crt 0 = 0 := rfl
  have h1 : crt 4096 = crt 0 + cT 12 0 := cT_crt 12 0
  have h2 : crt 8192 = crt 4096 + cT 12 4096 := cT_crt 12 4096
  have h3 : crt 12288 = crt 8192 + cT 12 8192 := cT_crt 12 8192
  have h4 : crt 16384 = crt 12288 + cT 12 12288 := cT_crt 12 12288
  have h5 : crt 20480 = crt 16384 + cT 12 16384 := cT_crt 12 16384
  have h6 : crt 24576 = crt 20480 + cT 12 20480 := cT_crt 12 20480
  have h7 : crt 28672 = crt 24576 + cT 12 24576 := cT_crt 12 24576
  have h8 : crt 32768 = crt 28672 + cT 12 28672 := cT_crt 12 28672
  have h9 : crt 36864 = crt 32768 + cT 12 32768 := cT_crt 12 32768
  have h10 : crt 40960 = crt 36864 + cT 12 36864 := cT_crt 12 36864
  have h11 : crt 45056 = crt 40960 + cT 12 40960 := cT_crt 12 40960
  have h12 : crt 49152 = crt 45056 + cT 12 45056 := cT_crt 12 45056
  have h13 : crt 53248 = crt 49152 + cT 12 49152 := cT_crt 12 49152
  have h14 : crt 57344 = crt 53248 + cT 12 53248 := cT_crt 12 53248
  have h15 : crt 61440 = crt 57344 + cT 12 57344 := cT_crt 12 57344
  have h16 : crt 65536 = crt 61440 + cT 12 61440 := cT_crt 12 61440
  rw [ct_0] at h1
  rw [ct_1] at h2
  rw [ct_2] at h3
  rw [ct_3] at h4
  rw [ct_4] at h5
  rw [ct_5] at h6
  rw [ct_6] at h7
  rw [ct_7] at h8
  rw [ct_8] at h9
  rw [ct_9] at h10
  rw [ct_10] at h11
  rw [ct_11] at h12
  rw [ct_12] at h13
  rw [ct_13] at h14
  rw [ct_14] at h15
  rw [ct_15] at h16
  omega
theorem m7_all : ∀ c : Fin 16, (30583 : Nat).testBit c.val = decide (c.val % 4 < 3) := by decide +kernel
theorem m4_all : ∀ c : Fin 16, (4095 : Nat).testBit c.val = decide (c.val < 12) := by decide +kernel
theorem dh_bit (W c : Nat) (hc : c < 16) : (dhN W).testBit c = ((W.testBit c ^^ W.testBit (c + 1)) && decide (c % 4 < 3)) := by
  show ((W ^^^ (W >>> 1)) &&& 30583).testBit c = _
  rw [Nat.testBit_and, Nat.testBit_xor, Nat.testBit_shiftRight, Nat.add_comm 1 c, show (30583 : Nat).testBit c = decide (c % 4 < 3) from m7_all ⟨c, hc⟩]
theorem dv_bit (W c : Nat) (hc : c < 16) : (dvN W).testBit c = ((W.testBit c ^^ W.testBit (c + 4)) && decide (c < 12)) := by
  show ((W ^^^ (W >>> 4)) &&& 4095).testBit c = _
  rw [Nat.testBit_and, Nat.testBit_xor, Nat.testBit_shiftRight, Nat.add_comm 4 c, show (4095 : Nat).testBit c = decide (c < 12) from m4_all ⟨c, hc⟩]
theorem land_sub {x y : Nat} (h : Nat.land x y = x) {k : Nat} (hk : x.testBit k = true) : y.testBit k = true := by
  have : (x &&& y).testBit k = true := by rw [show x &&& y = x from h]; exact hk
  rw [Nat.testBit_and, hk] at this
  simpa using this
theorem sd_all : ∀ s : Fin 40, (∃ c : Fin 16, c.val % 4 < 3 ∧ haN 4 4 s.val 0 = c.val ∧ haN 4 4 s.val 1 = c.val + 1) ∨ (∃ c : Fin 16, c.val < 12 ∧ haN 4 4 s.val 0 = c.val ∧ haN 4 4 s.val 1 = c.val + 4) ∨ (∃ c : Fin 16, (63903 : Nat).testBit c.val = true ∧ ((haN 4 4 s.val 0 = 16 ∧ haN 4 4 s.val 1 = c.val) ∨ (haN 4 4 s.val 0 = c.val ∧ haN 4 4 s.val 1 = 16))) := by decide +kernel
theorem g44 : gOK 4 4 := ⟨⟨by decide, by decide⟩, by decide, by decide⟩
theorem b16 {W : Nat} (hW : W < 65536) : W.testBit 16 = false := Nat.testBit_lt_two_pow hW
theorem okV_sub {W V : Nat} (hW : W < 65536) (h : okV W V = true) : V < 65536 ∧ Sub (aR 4 4 (fun c => V.testBit c)) (aR 4 4 (fun c => W.testBit c)) := by
  rw [okV, Bool.and_eq_true, Bool.and_eq_true, Bool.and_eq_true] at h
  obtain ⟨h0, h1, h2, h3⟩ := h
  have h0 : V &&& 65535 = V := Nat.eq_of_beq_eq_true h0
  have h1 := Nat.eq_of_beq_eq_true h1
  have h2 := Nat.eq_of_beq_eq_true h2
  have h3 := Nat.eq_of_beq_eq_true h3
  have hV : V < 65536 := by rw [← h0]; exact Nat.lt_of_le_of_lt Nat.and_le_right (by decide)
  refine ⟨hV, fun s hs => ?_⟩
  rw [aR_bit g44, inA, Bool.and_eq_true] at hs ⊢
  obtain ⟨hs0, hs1⟩ := hs
  refine ⟨hs0, ?_⟩
  have hs40 : s < 40 := of_decide_eq_true hs0
  rcases sd_all ⟨s, hs40⟩ with ⟨c, c1, c2, c3⟩ | ⟨c, c1, c2, c3⟩ | ⟨c, c1, c2⟩
  · simp only at c2 c3
    rw [c2, c3] at hs1 ⊢
    have k : (dhN W).testBit c.val = true := land_sub h1 (by rw [dh_bit V c.val c.isLt, decide_eq_true c1, Bool.and_true]; exact hs1)
    rw [dh_bit W c.val c.isLt, Bool.and_eq_true] at k
    exact k.1
  · simp only at c2 c3
    rw [c2, c3] at hs1 ⊢
    have k : (dvN W).testBit c.val = true := land_sub h2 (by rw [dv_bit V c.val c.isLt, decide_eq_true c1, Bool.and_true]; exact hs1)
    rw [dv_bit W c.val c.isLt, Bool.and_eq_true] at k
    exact k.1
  · have go : V.testBit c.val = true → W.testBit c.val = true := fun k => land_sub h3 (by
      show (V &&& 63903).testBit c.val = true
      rw [Nat.testBit_and, k, c1]; rfl)
    rcases c2 with ⟨c2, c3⟩ | ⟨c2, c3⟩
    · simp only at c2 c3
      rw [c2, c3, b16 hV] at hs1
      rw [c2, c3, b16 hW, go (by simpa using hs1)]; rfl
    · simp only at c2 c3
      rw [c2, c3, b16 hV] at hs1
      rw [c2, c3, b16 hW, go (by simpa using hs1)]; rfl
theorem dg_all : ∀ c : Fin 16, (1911 : Nat).testBit c.val = true → (c.val < 11 ∧ cnN 4 4 c.val < 25) ∧ (List.range 40).countP (fun s => inP 4 4 (cnN 4 4 c.val) s) = 4 ∧ ∀ s : Fin 40, inP 4 4 (cnN 4 4 c.val) s.val = true → (haN 4 4 s.val 0 = c.val ∧ haN 4 4 s.val 1 = c.val + 1) ∨ (haN 4 4 s.val 0 = c.val + 4 ∧ haN 4 4 s.val 1 = c.val + 5) ∨ (haN 4 4 s.val 0 = c.val ∧ haN 4 4 s.val 1 = c.val + 4) ∨ (haN 4 4 s.val 0 = c.val + 1 ∧ haN 4 4 s.val 1 = c.val + 5) := by decide +kernel
theorem eE_ok {W : Nat} (hdeg : ∀ p, p < 25 → cnt (lN (meN 4 4 p) &&& aR 4 4 (fun c => W.testBit c)) = 0 ∨ cnt (lN (meN 4 4 p) &&& aR 4 4 (fun c => W.testBit c)) = 2) : eE W = 0 := by
  by_cases q : eE W = 0
  · exact q
  · exfalso
    obtain ⟨c, hc, -⟩ := low_nat q
    have hc : (((dhN W) &&& ((dhN W) >>> 4)) &&& (((dvN W) &&& ((dvN W) >>> 1)) &&& 1911)).testBit c = true := hc
    rw [Nat.testBit_and, Nat.testBit_and, Nat.testBit_and, Nat.testBit_and, Nat.testBit_shiftRight, Nat.testBit_shiftRight, Bool.and_eq_true, Bool.and_eq_true, Bool.and_eq_true, Bool.and_eq_true, Nat.add_comm 4 c, Nat.add_comm 1 c] at hc
    obtain ⟨⟨a1, a2⟩, ⟨a3, a4⟩, a5⟩ := hc
    have c16 : c < 16 := by
      rcases Nat.lt_or_ge c 16 with z | z
      · exact z
      · rw [Nat.testBit_lt_two_pow (Nat.lt_of_lt_of_le (by decide : 1911 < 2 ^ 16) (Nat.pow_le_pow_right (by decide) z))] at a5
        exact absurd a5 (by decide)
    obtain ⟨⟨d0, d1⟩, d2, d3⟩ := dg_all ⟨c, c16⟩ a5
    simp only at d0 d1 d2 d3
    rw [dh_bit W c (by omega), Bool.and_eq_true] at a1
    rw [dh_bit W (c + 4) (by omega), Bool.and_eq_true] at a2
    rw [dv_bit W c (by omega), Bool.and_eq_true] at a3
    rw [dv_bit W (c + 1) (by omega), Bool.and_eq_true] at a4
    have e : lN (meN 4 4 (cnN 4 4 c)) &&& aR 4 4 (fun c => W.testBit c) = lN (meN 4 4 (cnN 4 4 c)) := bt_all_ext (fun s => by
      rw [bt_and, me_bit' g44, aR_bit g44]
      by_cases z : inP 4 4 (cnN 4 4 c) s = true
      · have hs := lt_sd z
        have hs40 : s < 40 := hs
        rw [z, inA, decide_eq_true hs, Bool.true_and, Bool.true_and]
        rcases d3 ⟨s, hs40⟩ z with ⟨x1, x2⟩ | ⟨x1, x2⟩ | ⟨x1, x2⟩ | ⟨x1, x2⟩
        · simp only at x1 x2; rw [x1, x2]; exact a1.1
        · simp only at x1 x2; rw [x1, x2]; exact a2.1
        · simp only at x1 x2; rw [x1, x2]; exact a3.1
        · simp only at x1 x2; rw [x1, x2]; exact a4.1
      · have z : inP 4 4 (cnN 4 4 c) s = false := by revert z; cases inP 4 4 (cnN 4 4 c) s <;> simp
        rw [z]; rfl)
    have := hdeg _ d1
    rw [e, cnt_me g44, d2] at this
    omega
theorem badV_no {W V : Nat} (hW : W < 65536) (h : isW 4 4 W) : badV W V = false := by
  by_cases q : badV W V = true
  · exfalso
    rw [badV, Bool.and_eq_true, Bool.and_eq_true] at q
    obtain ⟨q1, q2, q3⟩ := q
    obtain ⟨hV, hs⟩ := okV_sub hW q3
    have s1 : Sp 4 4 (fun c => W.testBit c) := Sp_W hW
    have s2 : Sp 4 4 (fun c => V.testBit c) := Sp_W hV
    rcases ring_only g44 s1 s2 hs h.1 h.2 with z | z
    · rw [← aR_0 g44] at z
      have := aR_inj g44 s2 (fun _ _ => rfl) z
      have : V = 0 := Nat.eq_of_testBit_eq (fun c => by rw [Nat.zero_testBit]; exact this c)
      rw [this] at q2
      exact absurd q2 (by decide)
    · have := aR_inj g44 s2 s1 z
      have : V = W := Nat.eq_of_testBit_eq (fun c => this c)
      rw [this, Nat.beq_refl] at q1
      exact absurd q1 (by decide)
  · revert q; cases badV W V <;> simp
theorem tst_ok {W : Nat} (hW : W < 65536) (h : isW 4 4 W) : tst W = true := by
  rw [tst, eE_ok h.1, frc_eq, badV_no hW h, frc_eq, frc_eq, frc_eq, badV_no hW h]
  rfl
theorem rc_le (w h s : Int32) (ho : Nat → Int32) (ap : Nat → Int64) : ∀ k, rcnt w h s ho ap k ≤ k := by
  intro k
  induction k with
  | zero => exact Nat.le_refl _
  | succ k ih =>
    rw [rcnt]
    split
    · omega
    · split <;> omega
theorem rc_44 {ho : Nat → Int32} {ap : Nat → Int64} (hho : ∀ s, s < sdN 4 4 → ∀ e, e < 2 → ho (2 * s + e) = nI (haN 4 4 s e)) (hap : ∀ p, p < (4 + 1) * (4 + 1) → ap p = lN (meN 4 4 p)) : ∀ k, k ≤ 65536 → rcnt (nI 4) (nI 4) (nI (sdN 4 4)) ho ap k ≤ crt k := by
  intro k
  induction k with
  | zero => intro _; exact Nat.le_refl _
  | succ k ih =>
    intro hk
    have := ih (by omega)
    rw [rcnt, crt]
    by_cases k0 : k = 0
    · rw [if_pos k0]; omega
    · rw [if_neg k0, ar_val g44 (show k < 2 ^ 16 by omega) hho]
      by_cases q : f_X8_isRing (aR 4 4 (fun c => k.testBit c)) (nI 4) (nI 4) ap = 0
      · rw [if_pos q]; omega
      · rw [if_neg q, if_pos (tst_ok (by omega) ((ring_iff g44 hap (fun i hi => by rw [aR_bit g44, inA_out _ i hi]) (W_ne g44 (show k < 2 ^ (4 * 4) by omega) k0)).mp q))]
        omega
theorem ab_all : ∀ a b : Fin 5, (a.val = 4 ∧ b.val = 4) ∨ a.val * b.val ≤ 12 := by decide
theorem rc_bound {a b : Nat} (hg : gOK a b) {ho : Nat → Int32} {ap : Nat → Int64} (hho : ∀ s, s < sdN a b → ∀ e, e < 2 → ho (2 * s + e) = nI (haN a b s e)) (hap : ∀ p, p < (a + 1) * (b + 1) → ap p = lN (meN a b p)) {k : Nat} (hk : k ≤ 2 ^ (a * b)) : rcnt (nI a) (nI b) (nI (sdN a b)) ho ap k ≤ 9400 := by
  obtain ⟨⟨ga1, ga2⟩, gb1, gb2⟩ := id hg
  rcases ab_all ⟨a, by omega⟩ ⟨b, by omega⟩ with ⟨e1, e2⟩ | e
  · simp only at e1 e2
    subst e1; subst e2
    have h1 := rc_44 hho hap k hk
    have h2 := crt_mono k (65536 - k)
    rw [show k + (65536 - k) = 65536 by have : k ≤ 65536 := hk; omega] at h2
    have := crt_all
    omega
  · have h1 := rc_le (nI a) (nI b) (nI (sdN a b)) ho ap k
    have h2 : 2 ^ (a * b) ≤ 2 ^ 12 := Nat.pow_le_pow_right (by decide) e
    omega
theorem rc_hRc {a b : Nat} (hg : gOK a b) {ho : Nat → Int32} {ap : Nat → Int64} (hho : ∀ s, s < sdN a b → ∀ e, e < 2 → ho (2 * s + e) = nI (haN a b s e)) (hap : ∀ p, p < (a + 1) * (b + 1) → ap p = lN (meN a b p)) : hRc (nI a) (nI b) (nI (a * b)) (nI (sdN a b)) ho ap := by
  intro k hk
  have hn := gOK_lt hg
  rw [sh_all ⟨a * b, by omega⟩, nI_toInt (Nat.lt_of_le_of_lt (Nat.pow_le_pow_right (by decide) hn.1.2) (by decide))] at hk
  exact rc_bound hg hho hap (by omega)
