/-! the JDK's bitCount tells cnt: fields of bytes -/
def mk5 : Nat → Nat
  | 0 => 0
  | n + 1 => 256 * mk5 n + 85
def mk3 : Nat → Nat
  | 0 => 0
  | n + 1 => 256 * mk3 n + 51
def mkf : Nat → Nat
  | 0 => 0
  | n + 1 => 256 * mkf n + 15
theorem land256 {a b c d : Nat} (hb : b < 256) (hd : d < 256) : (256 * a + b) &&& (256 * c + d) = 256 * (a &&& c) + (b &&& d) := by
  have h1 : ((256 * a + b) &&& (256 * c + d)) / 2 ^ 8 = a &&& c := by
    rw [Nat.and_div_two_pow]
    congr 1 <;> omega
  have h2 : ((256 * a + b) &&& (256 * c + d)) % 2 ^ 8 = b &&& d := by
    rw [Nat.and_mod_two_pow]
    congr 1 <;> omega
  have := Nat.div_add_mod ((256 * a + b) &&& (256 * c + d)) (2 ^ 8)
  rw [h1, h2] at this
  exact this.symm
def s1b (b : Nat) : Nat := b - ((b / 2) &&& 85)
def s2b (b : Nat) : Nat := (b &&& 51) + ((b / 4) &&& 51)
def s3b (b : Nat) : Nat := (b + b / 16) &&& 15
theorem b5_low : ∀ c : Fin 2, ∀ d : Fin 128, (128 * c.val + d.val) &&& 85 = d.val &&& 85 := by decide +kernel
theorem b3_low : ∀ c : Fin 4, ∀ d : Fin 64, (64 * c.val + d.val) &&& 51 = d.val &&& 51 := by decide +kernel
theorem s1_ok : ∀ b : Fin 256, ((b.val / 2) &&& 85) ≤ b.val := by decide +kernel
theorem s123 : ∀ b : Fin 256, s1b b.val < 256 ∧ s2b (s1b b.val) < 69 ∧ s2b (s1b b.val) + s2b (s1b b.val) / 16 < 256 ∧ (∀ c : Fin 5, (s2b (s1b b.val) + (16 * c.val + s2b (s1b b.val) / 16)) < 256 ∧ (s2b (s1b b.val) + (16 * c.val + s2b (s1b b.val) / 16)) &&& 15 = s3b (s2b (s1b b.val))) ∧ s3b (s2b (s1b b.val)) = cntN b.val 8 := by decide +kernel
theorem s2_low : ∀ b : Fin 256, s2b (s1b b.val) % 16 < 5 := by decide +kernel
theorem half_le5 : ∀ (n X : Nat), ((X / 2) &&& mk5 n) ≤ X := fun n X => Nat.le_trans Nat.and_le_left (Nat.div_le_self X 2)
theorem st1 {q b : Nat} (n : Nat) (hb : b < 256) : (256 * q + b) - (((256 * q + b) / 2) &&& mk5 (n + 1)) = 256 * (q - ((q / 2) &&& mk5 n)) + s1b b := by
  have e : (256 * q + b) / 2 = 256 * (q / 2) + (128 * (q % 2) + b / 2) := by omega
  have l := b5_low ⟨q % 2, by omega⟩ ⟨b / 2, by omega⟩
  rw [e, mk5, land256 (by omega) (by decide), l]
  have h1 := half_le5 n q
  have h2 := s1_ok ⟨b, hb⟩
  simp only [s1b]
  simp only at h2 l
  omega
theorem st2 {q b : Nat} (n : Nat) (hb : b < 256) : ((256 * q + b) &&& mk3 (n + 1)) + (((256 * q + b) / 4) &&& mk3 (n + 1)) = 256 * ((q &&& mk3 n) + ((q / 4) &&& mk3 n)) + s2b b := by
  have e : (256 * q + b) / 4 = 256 * (q / 4) + (64 * (q % 4) + b / 4) := by omega
  have l := b3_low ⟨q % 4, by omega⟩ ⟨b / 4, by omega⟩
  rw [e, mk3, land256 hb (by decide), land256 (by omega) (by decide), l]
  simp only [s2b]
  omega
def sw1 (n X : Nat) : Nat := X - ((X / 2) &&& mk5 n)
def sw2 (n X : Nat) : Nat := (X &&& mk3 n) + ((X / 4) &&& mk3 n)
def sw3 (n X : Nat) : Nat := (X + X / 16) &&& mkf n
theorem sw_step {q b : Nat} (n : Nat) (hb : b < 256) (hq : sw2 n (sw1 n q) % 16 < 5) : sw3 (n + 1) (sw2 (n + 1) (sw1 (n + 1) (256 * q + b))) = 256 * sw3 n (sw2 n (sw1 n q)) + cntN b 8 := by
  have h := s123 ⟨b, hb⟩
  simp only at h
  obtain ⟨h1, h2, h3, h4, h5⟩ := h
  have e1 : sw1 (n + 1) (256 * q + b) = 256 * sw1 n q + s1b b := st1 n hb
  have e2 : sw2 (n + 1) (256 * sw1 n q + s1b b) = 256 * sw2 n (sw1 n q) + s2b (s1b b) := st2 n h1
  rw [e1, e2]
  generalize sw2 n (sw1 n q) = Y at hq ⊢
  have h6 := h4 ⟨Y % 16, hq⟩
  simp only at h6
  show (256 * Y + s2b (s1b b) + (256 * Y + s2b (s1b b)) / 16) &&& mkf (n + 1) = _
  have e3 : 256 * Y + s2b (s1b b) + (256 * Y + s2b (s1b b)) / 16 = 256 * (Y + Y / 16) + (s2b (s1b b) + (16 * (Y % 16) + s2b (s1b b) / 16)) := by omega
  rw [e3, mkf, land256 h6.1 (by decide), h6.2, h5]
  rfl
theorem sw_low {q b : Nat} (n : Nat) (hb : b < 256) : sw2 (n + 1) (sw1 (n + 1) (256 * q + b)) % 16 < 5 := by
  have h := s123 ⟨b, hb⟩
  simp only at h
  have h2 := s2_low ⟨b, hb⟩
  simp only at h2
  have e1 : sw1 (n + 1) (256 * q + b) = 256 * sw1 n q + s1b b := st1 n hb
  have e2 : sw2 (n + 1) (256 * sw1 n q + s1b b) = 256 * sw2 n (sw1 n q) + s2b (s1b b) := st2 n h.1
  rw [e1, e2]
  omega
theorem sw_zero : sw2 0 (sw1 0 0) % 16 < 5 := by decide
theorem cntN_cons {q b m : Nat} (hb : b < 256) : cntN (256 * q + b) (8 + m) = cntN b 8 + cntN q m := by
  unfold cntN
  rw [List.range_add, List.countP_append, List.countP_map]
  have e : ∀ k, (256 * q + b).testBit k = if k < 8 then b.testBit k else q.testBit (k - 8) := fun k => Nat.testBit_two_pow_mul_add (i := 8) q hb k
  congr 1
  · apply List.countP_congr
    intro k hk
    have := List.mem_range.mp hk
    rw [e k, if_pos this]
  · apply List.countP_congr
    intro k _
    simp only [Function.comp]
    rw [e (8 + k), if_neg (by omega), show 8 + k - 8 = k by omega]
theorem cntN_le8 (b : Nat) : cntN b 8 ≤ 8 := by
  have := List.countP_le_length (p := fun k => b.testBit k) (l := List.range 8)
  simpa [cntN] using this
theorem dvq {r k q v : Nat} (h : v = r + k * q) (hr : r < k) : v / k = q := by
  rw [h, Nat.add_mul_div_left r q (by omega), Nat.div_eq_of_lt hr, Nat.zero_add]
theorem bc_lin {c0 c1 c2 c3 c4 c5 c6 c7 : Nat} (h0 : c0 ≤ 8) (h1 : c1 ≤ 8) (h2 : c2 ≤ 8) (h3 : c3 ≤ 8) (h4 : c4 ≤ 8) (h5 : c5 ≤ 8) (h6 : c6 ≤ 8) (h7 : c7 ≤ 8) {c : Nat} (hc : c = 256 * ((c1 + c2 + c3 + c4 + c5 + c6 + c7) + 256 * ((c2 + c3 + c4 + c5 + c6 + c7) + 256 * ((c3 + c4 + c5 + c6 + c7) + 256 * ((c4 + c5 + c6 + c7) + 256 * ((c5 + c6 + c7) + 256 * ((c6 + c7) + 256 * c7)))))) + (c0 + c1 + c2 + c3 + c4 + c5 + c6 + c7)) : c < 2 ^ 64 ∧ c % 128 = c0 + c1 + c2 + c3 + c4 + c5 + c6 + c7 := by
  refine ⟨by omega, ?_⟩
  rw [hc]
  generalize (c1 + c2 + c3 + c4 + c5 + c6 + c7) + 256 * ((c2 + c3 + c4 + c5 + c6 + c7) + 256 * ((c3 + c4 + c5 + c6 + c7) + 256 * ((c4 + c5 + c6 + c7) + 256 * ((c5 + c6 + c7) + 256 * ((c6 + c7) + 256 * c7))))) = K
  omega
theorem bc_sum {c0 c1 c2 c3 c4 c5 c6 c7 : Nat} (h0 : c0 ≤ 8) (h1 : c1 ≤ 8) (h2 : c2 ≤ 8) (h3 : c3 ≤ 8) (h4 : c4 ≤ 8) (h5 : c5 ≤ 8) (h6 : c6 ≤ 8) (h7 : c7 ≤ 8) {v a b c : Nat}
    (hv : v = 256 * (256 * (256 * (256 * (256 * (256 * (256 * c7 + c6) + c5) + c4) + c3) + c2) + c1) + c0) (ha : a = v + v / 256) (hb : b = a + a / 65536) (hc : c = b + b / 4294967296) : a < 2 ^ 64 ∧ b < 2 ^ 64 ∧ c < 2 ^ 64 ∧ c % 128 = c0 + c1 + c2 + c3 + c4 + c5 + c6 + c7 := by
  have q0 : v / 256 = 256 * (256 * (256 * (256 * (256 * (256 * c7 + c6) + c5) + c4) + c3) + c2) + c1 := dvq (r := c0) (by rw [hv]; exact Nat.add_comm _ _) (by omega)
  rw [q0] at ha
  have a1 : a = ((c0 + c1) + 256 * (c1 + c2)) + 65536 * ((c2 + c3) + 256 * ((c3 + c4) + 256 * ((c4 + c5) + 256 * ((c5 + c6) + 256 * ((c6 + c7) + 256 * c7))))) := by rw [ha, hv]; clear hb hc ha hv q0; omega
  have q1 : a / 65536 = (c2 + c3) + 256 * ((c3 + c4) + 256 * ((c4 + c5) + 256 * ((c5 + c6) + 256 * ((c6 + c7) + 256 * c7)))) := dvq a1 (by clear a1 hb hc ha hv q0; omega)
  rw [q1] at hb
  have b1 : b = ((c0 + c1 + c2 + c3) + 256 * ((c1 + c2 + c3 + c4) + 256 * ((c2 + c3 + c4 + c5) + 256 * (c3 + c4 + c5 + c6)))) + 4294967296 * ((c4 + c5 + c6 + c7) + 256 * ((c5 + c6 + c7) + 256 * ((c6 + c7) + 256 * c7))) := by rw [hb, a1]; clear hb hc ha hv q0 a1 q1; omega
  have q2 : b / 4294967296 = (c4 + c5 + c6 + c7) + 256 * ((c5 + c6 + c7) + 256 * ((c6 + c7) + 256 * c7)) := dvq b1 (by clear a1 hb hc ha hv q0 q1 b1; omega)
  rw [q2] at hc
  have c1' : c = 256 * ((c1 + c2 + c3 + c4 + c5 + c6 + c7) + 256 * ((c2 + c3 + c4 + c5 + c6 + c7) + 256 * ((c3 + c4 + c5 + c6 + c7) + 256 * ((c4 + c5 + c6 + c7) + 256 * ((c5 + c6 + c7) + 256 * ((c6 + c7) + 256 * c7)))))) + (c0 + c1 + c2 + c3 + c4 + c5 + c6 + c7) := by rw [hc, b1]; clear hb hc ha hv q0 a1 q1 b1 q2; omega
  have r := bc_lin h0 h1 h2 h3 h4 h5 h6 h7 c1'
  refine ⟨by rw [a1]; clear hb hc ha hv q0 a1 q1 b1 q2 c1' r; omega, by rw [b1]; clear hb hc ha hv q0 a1 q1 b1 q2 c1' r; omega, r.1, r.2⟩
theorem sw_dig {Y Y1 : Nat} (n : Nat) (h : Y / 256 = Y1) (hq : sw2 n (sw1 n Y1) % 16 < 5) : sw3 (n + 1) (sw2 (n + 1) (sw1 (n + 1) Y)) = 256 * sw3 n (sw2 n (sw1 n Y1)) + cntN (Y % 256) 8 ∧ sw2 (n + 1) (sw1 (n + 1) Y) % 16 < 5 := by
  have e : 256 * Y1 + Y % 256 = Y := by omega
  have h1 := sw_step (q := Y1) (b := Y % 256) n (by omega) hq
  have h2 := sw_low (q := Y1) (b := Y % 256) n (by omega)
  rw [e] at h1 h2
  exact ⟨h1, h2⟩
theorem cn_dig {Y Y1 m : Nat} (h : Y / 256 = Y1) : cntN Y (8 + m) = cntN (Y % 256) 8 + cntN Y1 m := by
  have e : 256 * Y1 + Y % 256 = Y := by omega
  have h1 := cntN_cons (q := Y1) (b := Y % 256) (m := m) (by omega)
  rw [e] at h1
  exact h1
/-- eight bytes -/
theorem bc_nat {X a b c : Nat} (hX : X < 2 ^ 64) (ha : a = sw3 8 (sw2 8 (sw1 8 X)) + sw3 8 (sw2 8 (sw1 8 X)) / 256) (hb : b = a + a / 65536) (hc : c = b + b / 4294967296) : a < 2 ^ 64 ∧ b < 2 ^ 64 ∧ c < 2 ^ 64 ∧ c % 128 = cntN X 64 := by
  have e0 : X / 256 / 256 / 256 / 256 / 256 / 256 / 256 / 256 = 0 := by omega
  generalize e1 : X / 256 = X1 at e0
  generalize e2 : X1 / 256 = X2 at e0
  generalize e3 : X2 / 256 = X3 at e0
  generalize e4 : X3 / 256 = X4 at e0
  generalize e5 : X4 / 256 = X5 at e0
  generalize e6 : X5 / 256 = X6 at e0
  generalize e7 : X6 / 256 = X7 at e0
  have z : sw3 0 (sw2 0 (sw1 0 0)) = 0 := by decide
  have g7 := sw_dig 0 e0 sw_zero
  have g6 := sw_dig 1 e7 g7.2
  have g5 := sw_dig 2 e6 g6.2
  have g4 := sw_dig 3 e5 g5.2
  have g3 := sw_dig 4 e4 g4.2
  have g2 := sw_dig 5 e3 g3.2
  have g1 := sw_dig 6 e2 g2.2
  have g0 := sw_dig 7 e1 g1.2
  have k7 : cntN X7 8 = cntN (X7 % 256) 8 + cntN 0 0 := cn_dig (m := 0) e0
  have k6 : cntN X6 16 = cntN (X6 % 256) 8 + cntN X7 8 := cn_dig (m := 8) e7
  have k5 : cntN X5 24 = cntN (X5 % 256) 8 + cntN X6 16 := cn_dig (m := 16) e6
  have k4 : cntN X4 32 = cntN (X4 % 256) 8 + cntN X5 24 := cn_dig (m := 24) e5
  have k3 : cntN X3 40 = cntN (X3 % 256) 8 + cntN X4 32 := cn_dig (m := 32) e4
  have k2 : cntN X2 48 = cntN (X2 % 256) 8 + cntN X3 40 := cn_dig (m := 40) e3
  have k1 : cntN X1 56 = cntN (X1 % 256) 8 + cntN X2 48 := cn_dig (m := 48) e2
  have k0 : cntN X 64 = cntN (X % 256) 8 + cntN X1 56 := cn_dig (m := 56) e1
  have z2 : cntN 0 0 = 0 := rfl
  have hv : sw3 8 (sw2 8 (sw1 8 X)) = 256 * (256 * (256 * (256 * (256 * (256 * (256 * cntN (X7 % 256) 8 + cntN (X6 % 256) 8) + cntN (X5 % 256) 8) + cntN (X4 % 256) 8) + cntN (X3 % 256) 8) + cntN (X2 % 256) 8) + cntN (X1 % 256) 8) + cntN (X % 256) 8 := by
    rw [g0.1, g1.1, g2.1, g3.1, g4.1, g5.1, g6.1, g7.1, z, Nat.mul_zero, Nat.zero_add]
  have h := bc_sum (cntN_le8 (X % 256)) (cntN_le8 (X1 % 256)) (cntN_le8 (X2 % 256)) (cntN_le8 (X3 % 256)) (cntN_le8 (X4 % 256)) (cntN_le8 (X5 % 256)) (cntN_le8 (X6 % 256)) (cntN_le8 (X7 % 256)) hv ha hb hc
  refine ⟨h.1, h.2.1, h.2.2.1, ?_⟩
  rw [h.2.2.2, k0, k1, k2, k3, k4, k5, k6, k7, z2, Nat.add_zero]
  simp only [Nat.add_assoc]
