/-! the hint of class and model -/
theorem UK_z {s : Nat} {u : Int32 × Int64} (h : UK s u) (h0 : u.1 = 0) : u = (0, 0) := by
  rcases h with ⟨h1, h2⟩ | ⟨h1 | h1, -⟩ | ⟨h1, -⟩
  · exact Prod.ext h1 h2
  · rw [h1] at h0; exact absurd h0 (by decide)
  · rw [h1] at h0; exact absurd h0 (by decide)
  · rw [h1] at h0; exact absurd h0 (by decide)
theorem hC_all : ∀ a b : Fin 5, 1 ≤ a.val → 1 ≤ b.val → ∀ k : Fin 40, k.val < sdN a.val b.val → (haN a.val b.val k.val 0 < a.val * b.val ∨ haN a.val b.val k.val 0 = 16) ∧ (haN a.val b.val k.val 1 < a.val * b.val ∨ haN a.val b.val k.val 1 = 16) := by decide +kernel
theorem ro_ok {a b : Nat} (hg : gOK a b) {ro : Nat → Int64} (h1 : ∀ c, c < a * b → ro c = lN (roN a b c)) (h2 : ro 16 = lN (roN a b 16)) : ∀ h, h ≤ 16 → (∃ s, s < sdN a b ∧ inC a b h s = true) → ro h = lN (roN a b h) := by
  rintro h _ ⟨s, hs, hi⟩
  have hn := gOK_lt hg
  obtain ⟨⟨g1, g2⟩, g3, g4⟩ := id hg
  have := hC_all ⟨a, by omega⟩ ⟨b, by omega⟩ g1 g3 ⟨s, by omega⟩ hs
  rcases inC_h hi with rfl | rfl
  · rcases this.1 with q | q
    · exact h1 _ q
    · have q : haN a b s 0 = 16 := q
      rw [q]; exact h2
  · rcases this.2 with q | q
    · exact h1 _ q
    · have q : haN a b s 1 = 16 := q
      rw [q]; exact h2
theorem lN_out {p : Nat → Bool} {s : Nat} (hp : ∀ k, s ≤ k → p k = false) (hs : s ≤ 40) : ∀ i, s ≤ i → bt (lN (mkOf p 40)) i = false := by
  intro i hi
  rcases Nat.lt_or_ge i 64 with q | q
  · rw [tab_bit (fun k hk => hp k (by omega)) q, hp i hi]
  · exact bt_out _ q
theorem isAt_0 (x : Int32) (w h c s hi hr hp : Int32) (n l b hs : Int64) (ho : Nat → Int32) (ac ap : Nat → Int64) : f_X8_isAt 0 x w h c s hi hr hp n l b hs ho ac ap = f_X8_atCells x s hi hr hp n l b hs ac := by
  rw [f_X8_isAt, if_pos rfl, bd]
theorem isAt_1 (x : Int32) (w h c s hi hr hp : Int32) (n l b hs : Int64) (ho : Nat → Int32) (ac ap : Nat → Int64) : f_X8_isAt 1 x w h c s hi hr hp n l b hs ho ac ap = f_X8_atPoints x s l b ap := by
  rw [f_X8_isAt, if_neg (show ¬ (1 : Int32) = 0 by decide), if_pos rfl, bd]
theorem isAt_2 (x : Int32) (w h c s hi hr hp : Int32) (n l b hs : Int64) (ho : Nat → Int32) (ac ap : Nat → Int64) : f_X8_isAt 2 x w h c s hi hr hp n l b hs ho ac ap = f_X8_atChains x w h c hi hr hp n l b hs ac ap := by
  rw [f_X8_isAt, if_neg (show ¬ (2 : Int32) = 0 by decide), if_neg (show ¬ (2 : Int32) = 1 by decide), if_pos rfl, bd]
theorem isAt_3 (x : Int32) (w h c s hi hr hp : Int32) (n l b hs : Int64) (ho : Nat → Int32) (ac ap : Nat → Int64) : f_X8_isAt 3 x w h c s hi hr hp n l b hs ho ac ap = f_X8_atHands x s l b ho := by
  rw [f_X8_isAt, if_neg (show ¬ (3 : Int32) = 0 by decide), if_neg (show ¬ (3 : Int32) = 1 by decide), if_neg (show ¬ (3 : Int32) = 2 by decide), bd]
def HintR (s : Nat) (l b : Int64) (S H : Int32 × Int32 × Int32 × Int64) : Prop := S.1 = H.1 ∧ S.2.2.2 = H.2.2.2 ∧ (¬ S.1 = 0 → S.2.1 = H.2.1 ∧ S.2.2.1 = H.2.2.1) ∧ UK s (S.1, S.2.2.2)
theorem hint_eq {a b : Nat} (hg : gOK a b) {s_w s_h s_c s_p s_s m_w m_h m_c m_s hi hr hq rp : Int32} {s_cs s_ps s_ha s_en m_ho : Nat → Int32} {s_ro s_me s_be s_se s_co m_ac m_ap : Nat → Int64} {b_l b_b b_n m_l m_b m_n hs : Int64} (hC : RGridC a b s_w s_h s_c s_p s_s s_cs s_ps s_ha s_en s_ro s_me s_be s_se s_co) (hM : RGridM a b m_w m_h m_c m_s m_ho m_ac m_ap) (hB : RBoard (sdN a b) b_l b_b b_n m_l m_b m_n) :
    HintR (sdN a b) b_l b_b (f_X3_seek s_c s_p s_s rp b_l b_b b_n s_ha s_en s_ro s_me s_be) (f_X8_hints m_w m_h m_c m_s hi hr hq m_n m_l m_b hs m_ho m_ac m_ap) := by
  have hn := gOK_lt hg
  obtain ⟨e1, e2, e3, e4, e5, tcs, tps, tha, ten, tro, tro16, tme, tbe, tse, tco⟩ := hC
  obtain ⟨f1, f2, f3, f4, tho, tac, tap⟩ := hM
  obtain ⟨rfl, rfl, hN, hOK⟩ := hB
  subst e3; subst e4; subst e5; subst f1; subst f2; subst f3; subst f4
  have hro := ro_ok hg tro tro16
  have roo : ∀ c, ∀ i, sdN a b ≤ i → bt (lN (roN a b c)) i = false := fun c => lN_out (fun k hk => inC_out hg c k hk) (by omega)
  have meo : ∀ c, ∀ i, sdN a b ≤ i → bt (lN (meN a b c)) i = false := fun c => lN_out (fun k hk => inP_out c k hk) (by omega)
  -- the looks
  let U0 : Nat → Int32 × Int64 := fun p => f_X3_lookAtCell (f_X0_numberOf (nI p) b_n) (f_X4_roundCell (nI p) s_ro) 0 b_l b_b 0
  let U1 : Nat → Int32 × Int64 := fun p => f_X3_lookAtPoint (f_X4_atPoint (nI p) s_me) 0 b_l b_b 0
  let U2 : Nat → Int32 × Int64 := fun p => f_X3_lookAtChain (nI p) (f_X0_stateOf (nI p) b_l b_b) (nI (a * b)) (nI ((a + 1) * (b + 1))) 0 b_l b_n 0 s_en s_ro s_me s_be
  let U3 : Nat → Int32 × Int64 := fun p => f_X3_lookAtHands (nI p) (f_X0_stateOf (nI p) b_l b_b) 0 b_l b_b 0 s_ha s_ro
  have K0 : ∀ p, p < a * b → UK (sdN a b) (U0 p) := fun p hp => by
    show UK _ (f_X3_lookAtCell _ (f_X4_roundCell (nI p) s_ro) 0 b_l b_b 0)
    rw [ro_at (by omega), tro p hp]
    exact UK_cell (roo p)
  have K1 : ∀ p, p < (a + 1) * (b + 1) → UK (sdN a b) (U1 p) := fun p hp => by
    show UK _ (f_X3_lookAtPoint (f_X4_atPoint (nI p) s_me) 0 b_l b_b 0)
    rw [me_at (by omega), tme p hp]
    exact UK_point (meo p)
  have K2 : ∀ p, p < sdN a b → UK (sdN a b) (U2 p) := fun p hp => UK_chain hp (by omega)
  have K3 : ∀ p, p < sdN a b → UK (sdN a b) (U3 p) := fun p hp => UK_hands hp (by omega)
  have L0 : ∀ p, p < a * b → ∀ hi hr hq hs, Lk 0 (nI p) (U0 p) (f_X8_isAt 0 (nI p) (nI a) (nI b) (nI (a * b)) (nI (sdN a b)) hi hr hq m_n b_l b_b hs m_ho m_ac m_ap) := fun p hp hi hr hq hs => by
    show Lk 0 (nI p) (f_X3_lookAtCell _ (f_X4_roundCell (nI p) s_ro) 0 b_l b_b 0) _
    rw [ro_at (by omega), isAt_0]
    exact Lk_cell hg (by omega) hN (by rw [tro p hp]; exact fun k h _ => roo p k h) (by rw [tac p hp, tro p hp])
  have L1 : ∀ p, p < (a + 1) * (b + 1) → ∀ hi hr hq hs, Lk 1 (nI p) (U1 p) (f_X8_isAt 1 (nI p) (nI a) (nI b) (nI (a * b)) (nI (sdN a b)) hi hr hq m_n b_l b_b hs m_ho m_ac m_ap) := fun p hp hi hr hq hs => by
    show Lk 1 (nI p) (f_X3_lookAtPoint (f_X4_atPoint (nI p) s_me) 0 b_l b_b 0) _
    rw [me_at (by omega), isAt_1]
    exact Lk_point hg (by omega) (by rw [tme p hp]; exact fun k h _ => meo p k h) (by rw [tap p hp, tme p hp])
  have L2 : ∀ p, p < sdN a b → ∀ hi hr hq hs, Lk 2 (nI p) (U2 p) (f_X8_isAt 2 (nI p) (nI a) (nI b) (nI (a * b)) (nI (sdN a b)) hi hr hq m_n b_l b_b hs m_ho m_ac m_ap) := fun p hp hi hr hq hs => by
    rw [isAt_2]
    exact Lk_chain hg hp hN hOK ten (fun c hc => by rw [tro c hc, tac c hc]) (fun c hc => by rw [tme c hc, tap c hc]) tap tbe
  have L3 : ∀ p, p < sdN a b → ∀ hi hr hq hs, Lk 3 (nI p) (U3 p) (f_X8_isAt 3 (nI p) (nI a) (nI b) (nI (a * b)) (nI (sdN a b)) hi hr hq m_n b_l b_b hs m_ho m_ac m_ap) := fun p hp hi hr hq hs => by
    rw [isAt_3]
    exact Lk_hands hg hp tha tho hro hOK
  have S0 : ∀ {β : Type} (k0 : Int32 → Int32 → Int64 → β), SkG (nI (a * b)) (fun x rk rt => f_X3_lookAtCell (f_X0_numberOf x b_n) (f_X4_roundCell x s_ro) rk b_l b_b rt) k0 (F_X3_seek_17 (nI (a * b)) b_l b_b b_n s_ro k0) := fun k0 _ _ _ _ _ => by rw [F_X3_seek_17]
  have S1 : ∀ {β : Type} (k0 : Int32 → Int32 → Int64 → β), SkG (nI ((a + 1) * (b + 1))) (fun x rk rt => f_X3_lookAtPoint (f_X4_atPoint x s_me) rk b_l b_b rt) k0 (F_X3_seek_80 (nI ((a + 1) * (b + 1))) b_l b_b s_me k0) := fun k0 _ _ _ _ _ => by rw [F_X3_seek_80]
  have S2 : ∀ {β : Type} (k0 : Int32 → Int32 → Int64 → β), SkG (nI (sdN a b)) (fun x rk rt => f_X3_lookAtChain x (f_X0_stateOf x b_l b_b) (nI (a * b)) (nI ((a + 1) * (b + 1))) rk b_l b_n rt s_en s_ro s_me s_be) k0 (F_X3_seek_135 (nI (a * b)) (nI ((a + 1) * (b + 1))) (nI (sdN a b)) b_l b_b b_n s_en s_ro s_me s_be k0) := fun k0 _ _ _ _ _ => by rw [F_X3_seek_135]
  have S3 : ∀ {β : Type} (k0 : Int32 → Int32 → Int64 → β), SkG (nI (sdN a b)) (fun x rk rt => f_X3_lookAtHands x (f_X0_stateOf x b_l b_b) rk b_l b_b rt s_ha s_ro) k0 (F_X3_seek_191 (nI (sdN a b)) b_l b_b s_ha s_ro k0) := fun k0 _ _ _ _ _ => by rw [F_X3_seek_191]
  rw [f_X3_seek, f_X8_hints, fuN (show a * b < 2 ^ 31 by omega), fuN (show (a + 1) * (b + 1) < 2 ^ 31 by omega), fuN (show sdN a b < 2 ^ 31 by omega), show (fu 4 (0 : Int32)) = 5 by decide]
  have z0 : (0 : Int32) = nI 0 := rfl
  rw [F_X8_hints_2, if_neg (show ¬ (4 : Int32) ≤ 0 by decide), if_pos rfl, fuN (show a * b < 2 ^ 31 by omega)]
  rcases hit_or (a * b) U0 with n0 | ⟨p, hp, hH, hU⟩
  · obtain ⟨rp0, g0⟩ := Sk_none (N := a * b) (by omega) (S0 _) (fun p hp => UK_z (K0 p hp) (n0 p hp)) (a * b + 1) 0 rp (by omega) (by omega)
    rw [← z0] at g0
    rw [g0, if_pos rfl]
    obtain ⟨v1, v2, v3, v4, g0'⟩ := Hn_none (N := a * b) (by omega) L0 n0 (fun z18 z19 z20 z21 => F_X8_hints_2 (nI a) (nI b) (nI (a * b)) (nI (sdN a b)) m_n b_l b_b m_ho m_ac m_ap (fun z26 z27 z28 z29 => ((0 : Int32), z27, z28, (0 : Int64))) (fun z30 z31 z32 z33 => (z30, z31, z32, z33)) 4 (0 + 1) z18 z19 z20 z21) (fun z22 z23 z24 z25 => (z22, z23, z24, z25)) (a * b + 1) 0 hi hr hq hs (by omega) (by omega)
    rw [← z0] at g0'
    rw [g0', F_X8_hints_2, if_neg (show ¬ (4 : Int32) ≤ 0 + 1 by decide), if_neg (show ¬ (0 + 1 : Int32) = 0 by decide), if_pos (show (0 + 1 : Int32) = 1 by decide), pts_nI, fuN (show (a + 1) * (b + 1) < 2 ^ 31 by omega)]
    rcases hit_or ((a + 1) * (b + 1)) U1 with n1 | ⟨p, hp, hH, hU⟩
    · obtain ⟨rp1, g1⟩ := Sk_none (N := (a + 1) * (b + 1)) (by omega) (S1 _) (fun p hp => UK_z (K1 p hp) (n1 p hp)) ((a + 1) * (b + 1) + 1) 0 rp0 (by omega) (by omega)
      rw [← z0] at g1
      rw [g1, if_pos rfl]
      obtain ⟨v1, v2, v3, v4, g1'⟩ := Hn_none (N := (a + 1) * (b + 1)) (by omega) L1 n1 (fun z18 z19 z20 z21 => F_X8_hints_2 (nI a) (nI b) (nI (a * b)) (nI (sdN a b)) m_n b_l b_b m_ho m_ac m_ap (fun z26 z27 z28 z29 => ((0 : Int32), z27, z28, (0 : Int64))) (fun z30 z31 z32 z33 => (z30, z31, z32, z33)) 3 (0 + 1 + 1) z18 z19 z20 z21) (fun z22 z23 z24 z25 => (z22, z23, z24, z25)) ((a + 1) * (b + 1) + 1) 0 v1 v2 v3 v4 (by omega) (by omega)
      rw [← z0] at g1'
      rw [show (0 + 1 : Int32) = 1 by decide] at g1' ⊢
      rw [g1', F_X8_hints_2, if_neg (show ¬ (4 : Int32) ≤ 1 + 1 by decide), if_neg (show ¬ (1 + 1 : Int32) = 0 by decide), if_neg (show ¬ (1 + 1 : Int32) = 1 by decide), fuN (show sdN a b < 2 ^ 31 by omega), show (1 + 1 : Int32) = 2 by decide]
      rcases hit_or (sdN a b) U2 with n2 | ⟨p, hp, hH, hU⟩
      · obtain ⟨rp2, g2⟩ := Sk_none (N := sdN a b) (by omega) (S2 _) (fun p hp => UK_z (K2 p hp) (n2 p hp)) (sdN a b + 1) 0 rp1 (by omega) (by omega)
        rw [← z0] at g2
        rw [g2, if_pos rfl]
        obtain ⟨v1, v2, v3, v4, g2'⟩ := Hn_none (N := sdN a b) (by omega) L2 n2 (fun z18 z19 z20 z21 => F_X8_hints_2 (nI a) (nI b) (nI (a * b)) (nI (sdN a b)) m_n b_l b_b m_ho m_ac m_ap (fun z26 z27 z28 z29 => ((0 : Int32), z27, z28, (0 : Int64))) (fun z30 z31 z32 z33 => (z30, z31, z32, z33)) 2 (2 + 1) z18 z19 z20 z21) (fun z22 z23 z24 z25 => (z22, z23, z24, z25)) (sdN a b + 1) 0 v1 v2 v3 v4 (by omega) (by omega)
        rw [← z0] at g2'
        rw [g2', F_X8_hints_2, if_neg (show ¬ (4 : Int32) ≤ 2 + 1 by decide), if_neg (show ¬ (2 + 1 : Int32) = 0 by decide), if_neg (show ¬ (2 + 1 : Int32) = 1 by decide), fuN (show sdN a b < 2 ^ 31 by omega), show (2 + 1 : Int32) = 3 by decide]
        rcases hit_or (sdN a b) U3 with n3 | ⟨p, hp, hH, hU⟩
        · obtain ⟨rp3, g3⟩ := Sk_none (N := sdN a b) (by omega) (S3 _) (fun p hp => UK_z (K3 p hp) (n3 p hp)) (sdN a b + 1) 0 rp2 (by omega) (by omega)
          rw [← z0] at g3
          rw [g3]
          obtain ⟨v1, v2, v3, v4, g3'⟩ := Hn_none (N := sdN a b) (by omega) L3 n3 (fun z18 z19 z20 z21 => F_X8_hints_2 (nI a) (nI b) (nI (a * b)) (nI (sdN a b)) m_n b_l b_b m_ho m_ac m_ap (fun z26 z27 z28 z29 => ((0 : Int32), z27, z28, (0 : Int64))) (fun z30 z31 z32 z33 => (z30, z31, z32, z33)) 1 (3 + 1) z18 z19 z20 z21) (fun z22 z23 z24 z25 => (z22, z23, z24, z25)) (sdN a b + 1) 0 v1 v2 v3 v4 (by omega) (by omega)
          rw [← z0] at g3'
          rw [g3', F_X8_hints_2, if_pos (show (4 : Int32) ≤ 3 + 1 by decide)]
          exact ⟨rfl, rfl, fun q => absurd rfl q, Or.inl ⟨rfl, rfl⟩⟩
        · have g3 := Sk_hit (N := sdN a b) (by omega) hp (S3 (fun z47 z48 z49 => (z47, (3 : Int32), z48, z49))) (fun q hq => UK_z (K3 q (by omega)) (hU q hq)) hH (sdN a b + 1) 0 rp2 (by omega) (by omega)
          have g3' := Hn_hit (N := sdN a b) (by omega) hp L3 hU hH (fun z18 z19 z20 z21 => F_X8_hints_2 (nI a) (nI b) (nI (a * b)) (nI (sdN a b)) m_n b_l b_b m_ho m_ac m_ap (fun z26 z27 z28 z29 => ((0 : Int32), z27, z28, (0 : Int64))) (fun z30 z31 z32 z33 => (z30, z31, z32, z33)) 1 (3 + 1) z18 z19 z20 z21) (fun z22 z23 z24 z25 => (z22, z23, z24, z25)) (sdN a b + 1) 0 v1 v2 v3 v4 (by omega) (by omega)
          rw [← z0] at g3 g3'
          rw [g3, g3']
          exact ⟨rfl, rfl, fun _ => ⟨rfl, rfl⟩, K3 p hp⟩
      · have g2 := fun {β : Type} (k0 : Int32 → Int32 → Int64 → β) => Sk_hit (N := sdN a b) (by omega) hp (S2 k0) (fun q hq => UK_z (K2 q (by omega)) (hU q hq)) hH (sdN a b + 1) 0 rp1 (by omega) (by omega)
        have g2' := Hn_hit (N := sdN a b) (by omega) hp L2 hU hH (fun z18 z19 z20 z21 => F_X8_hints_2 (nI a) (nI b) (nI (a * b)) (nI (sdN a b)) m_n b_l b_b m_ho m_ac m_ap (fun z26 z27 z28 z29 => ((0 : Int32), z27, z28, (0 : Int64))) (fun z30 z31 z32 z33 => (z30, z31, z32, z33)) 2 (2 + 1) z18 z19 z20 z21) (fun z22 z23 z24 z25 => (z22, z23, z24, z25)) (sdN a b + 1) 0 v1 v2 v3 v4 (by omega) (by omega)
        rw [← z0] at g2 g2'
        rw [g2, g2']
        show HintR _ _ _ (if (U2 p).1 = 0 then _ else _) _
        rw [if_neg hH, Sk_past (S3 _) _ _ _ _ _ hH]
        exact ⟨rfl, rfl, fun _ => ⟨rfl, rfl⟩, K2 p hp⟩
    · have g1 := fun {β : Type} (k0 : Int32 → Int32 → Int64 → β) => Sk_hit (N := (a + 1) * (b + 1)) (by omega) hp (S1 k0) (fun q hq => UK_z (K1 q (by omega)) (hU q hq)) hH ((a + 1) * (b + 1) + 1) 0 rp0 (by omega) (by omega)
      have g1' := Hn_hit (N := (a + 1) * (b + 1)) (by omega) hp L1 hU hH (fun z18 z19 z20 z21 => F_X8_hints_2 (nI a) (nI b) (nI (a * b)) (nI (sdN a b)) m_n b_l b_b m_ho m_ac m_ap (fun z26 z27 z28 z29 => ((0 : Int32), z27, z28, (0 : Int64))) (fun z30 z31 z32 z33 => (z30, z31, z32, z33)) 3 (1 + 1) z18 z19 z20 z21) (fun z22 z23 z24 z25 => (z22, z23, z24, z25)) ((a + 1) * (b + 1) + 1) 0 v1 v2 v3 v4 (by omega) (by omega)
      rw [← z0] at g1 g1'
      rw [show (0 + 1 : Int32) = 1 by decide]
      rw [g1, g1']
      show HintR _ _ _ (if (U1 p).1 = 0 then _ else _) _
      rw [if_neg hH, Sk_past (S2 _) _ _ _ _ _ hH, if_neg hH, Sk_past (S3 _) _ _ _ _ _ hH]
      exact ⟨rfl, rfl, fun _ => ⟨rfl, rfl⟩, K1 p hp⟩
  · have g0 := fun {β : Type} (k0 : Int32 → Int32 → Int64 → β) => Sk_hit (N := a * b) (by omega) hp (S0 k0) (fun q hq => UK_z (K0 q (by omega)) (hU q hq)) hH (a * b + 1) 0 rp (by omega) (by omega)
    have g0' := Hn_hit (N := a * b) (by omega) hp L0 hU hH (fun z18 z19 z20 z21 => F_X8_hints_2 (nI a) (nI b) (nI (a * b)) (nI (sdN a b)) m_n b_l b_b m_ho m_ac m_ap (fun z26 z27 z28 z29 => ((0 : Int32), z27, z28, (0 : Int64))) (fun z30 z31 z32 z33 => (z30, z31, z32, z33)) 4 (0 + 1) z18 z19 z20 z21) (fun z22 z23 z24 z25 => (z22, z23, z24, z25)) (a * b + 1) 0 hi hr hq hs (by omega) (by omega)
    rw [← z0] at g0 g0'
    rw [g0, g0']
    show HintR _ _ _ (if (U0 p).1 = 0 then _ else _) _
    rw [if_neg hH, Sk_past (S1 _) _ _ _ _ _ hH, if_neg hH, Sk_past (S2 _) _ _ _ _ _ hH, if_neg hH, Sk_past (S3 _) _ _ _ _ _ hH]
    exact ⟨rfl, rfl, fun _ => ⟨rfl, rfl⟩, K0 p hp⟩
