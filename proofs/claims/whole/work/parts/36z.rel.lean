def Rel (c_sr t_n t_r t_w s_w s_h s_c s_p s_s p_nx p_sz r_k r_r r_p l_z q_z : Int32) (t_t b_l b_b b_n r_t l_l l_b l_n q_l q_b q_n : Int64) (t_le s_cs s_ps s_ha s_en pk ik : Nat → Int32) (s_ro s_me s_be s_se s_co pl pb pn il ib im l_a q_a : Nat → Int64) (m_w m_h m_c m_s m_le m_un m_he m_ro m_wi m_hi m_hr m_hp m_rn m_rw m_rh : Int32) (m_n m_l m_b m_to m_hs : Int64) (m_ho m_tx m_ik m_wt : Nat → Int32) (m_ac m_ap m_pa m_im m_ri : Nat → Int64) : Prop := ∃ a b : Nat, gOK a b ∧ RText t_n t_le m_le m_tx ∧ RGridC a b s_w s_h s_c s_p s_s s_cs s_ps s_ha s_en s_ro s_me s_be s_se s_co ∧ RGridM a b m_w m_h m_c m_s m_ho m_ac m_ap ∧ RBoard (sdN a b) b_l b_b b_n m_l m_b m_n ∧ RPast (sdN a b) p_nx p_sz pl pb pn m_un m_pa ∧ RImg (sdN a b) ik il ib im m_ik m_im ∧ RLoops2 a b c_sr l_z l_a b_l b_b b_n ∧ RRings2 m_rn m_rw m_rh m_ri
theorem R_hc {c_sr t_n t_r t_w s_w s_h s_c s_p s_s p_nx p_sz r_k r_r r_p l_z q_z : Int32} {t_t b_l b_b b_n r_t l_l l_b l_n q_l q_b q_n : Int64} {t_le s_cs s_ps s_ha s_en pk ik : Nat → Int32} {s_ro s_me s_be s_se s_co pl pb pn il ib im l_a q_a : Nat → Int64} {m_w m_h m_c m_s m_le m_un m_he m_ro m_wi m_hi m_hr m_hp m_rn m_rw m_rh : Int32} {m_n m_l m_b m_to m_hs : Int64} {m_ho m_tx m_ik m_wt : Nat → Int32} {m_ac m_ap m_pa m_im m_ri : Nat → Int64} (h : Rel c_sr t_n t_r t_w s_w s_h s_c s_p s_s p_nx p_sz r_k r_r r_p l_z q_z t_t b_l b_b b_n r_t l_l l_b l_n q_l q_b q_n t_le s_cs s_ps s_ha s_en pk ik s_ro s_me s_be s_se s_co pl pb pn il ib im l_a q_a m_w m_h m_c m_s m_le m_un m_he m_ro m_wi m_hi m_hr m_hp m_rn m_rw m_rh m_n m_l m_b m_to m_hs m_ho m_tx m_ik m_wt m_ac m_ap m_pa m_im m_ri) : 0 ≤ s_c.toInt := by
  obtain ⟨a, b, hg, hT, hC, hM, hB, hP, hI, hL, hR⟩ := h
  have := gOK_lt hg
  rw [hC.2.2.1, nI_toInt (by omega)]
  omega
theorem R_hlen {c_sr t_n t_r t_w s_w s_h s_c s_p s_s p_nx p_sz r_k r_r r_p l_z q_z : Int32} {t_t b_l b_b b_n r_t l_l l_b l_n q_l q_b q_n : Int64} {t_le s_cs s_ps s_ha s_en pk ik : Nat → Int32} {s_ro s_me s_be s_se s_co pl pb pn il ib im l_a q_a : Nat → Int64} {m_w m_h m_c m_s m_le m_un m_he m_ro m_wi m_hi m_hr m_hp m_rn m_rw m_rh : Int32} {m_n m_l m_b m_to m_hs : Int64} {m_ho m_tx m_ik m_wt : Nat → Int32} {m_ac m_ap m_pa m_im m_ri : Nat → Int64} (h : Rel c_sr t_n t_r t_w s_w s_h s_c s_p s_s p_nx p_sz r_k r_r r_p l_z q_z t_t b_l b_b b_n r_t l_l l_b l_n q_l q_b q_n t_le s_cs s_ps s_ha s_en pk ik s_ro s_me s_be s_se s_co pl pb pn il ib im l_a q_a m_w m_h m_c m_s m_le m_un m_he m_ro m_wi m_hi m_hr m_hp m_rn m_rw m_rh m_n m_l m_b m_to m_hs m_ho m_tx m_ik m_wt m_ac m_ap m_pa m_im m_ri) : m_le.toInt ≤ 40 := by
  obtain ⟨a, b, hg, ⟨n, hn, e1, e2, ht⟩, hC, hM, hB, hP, hI, hL, hR⟩ := h
  rw [e2, nI_toInt (by omega)]
  omega
theorem R_hl0 {c_sr t_n t_r t_w s_w s_h s_c s_p s_s p_nx p_sz r_k r_r r_p l_z q_z : Int32} {t_t b_l b_b b_n r_t l_l l_b l_n q_l q_b q_n : Int64} {t_le s_cs s_ps s_ha s_en pk ik : Nat → Int32} {s_ro s_me s_be s_se s_co pl pb pn il ib im l_a q_a : Nat → Int64} {m_w m_h m_c m_s m_le m_un m_he m_ro m_wi m_hi m_hr m_hp m_rn m_rw m_rh : Int32} {m_n m_l m_b m_to m_hs : Int64} {m_ho m_tx m_ik m_wt : Nat → Int32} {m_ac m_ap m_pa m_im m_ri : Nat → Int64} (h : Rel c_sr t_n t_r t_w s_w s_h s_c s_p s_s p_nx p_sz r_k r_r r_p l_z q_z t_t b_l b_b b_n r_t l_l l_b l_n q_l q_b q_n t_le s_cs s_ps s_ha s_en pk ik s_ro s_me s_be s_se s_co pl pb pn il ib im l_a q_a m_w m_h m_c m_s m_le m_un m_he m_ro m_wi m_hi m_hr m_hp m_rn m_rw m_rh m_n m_l m_b m_to m_hs m_ho m_tx m_ik m_wt m_ac m_ap m_pa m_im m_ri) : 0 ≤ m_le.toInt := by
  obtain ⟨a, b, hg, ⟨n, hn, e1, e2, ht⟩, hC, hM, hB, hP, hI, hL, hR⟩ := h
  rw [e2, nI_toInt (by omega)]
  omega
theorem R_wh {c_sr t_n t_r t_w s_w s_h s_c s_p s_s p_nx p_sz r_k r_r r_p l_z q_z : Int32} {t_t b_l b_b b_n r_t l_l l_b l_n q_l q_b q_n : Int64} {t_le s_cs s_ps s_ha s_en pk ik : Nat → Int32} {s_ro s_me s_be s_se s_co pl pb pn il ib im l_a q_a : Nat → Int64} {m_w m_h m_c m_s m_le m_un m_he m_ro m_wi m_hi m_hr m_hp m_rn m_rw m_rh : Int32} {m_n m_l m_b m_to m_hs : Int64} {m_ho m_tx m_ik m_wt : Nat → Int32} {m_ac m_ap m_pa m_im m_ri : Nat → Int64} (h : Rel c_sr t_n t_r t_w s_w s_h s_c s_p s_s p_nx p_sz r_k r_r r_p l_z q_z t_t b_l b_b b_n r_t l_l l_b l_n q_l q_b q_n t_le s_cs s_ps s_ha s_en pk ik s_ro s_me s_be s_se s_co pl pb pn il ib im l_a q_a m_w m_h m_c m_s m_le m_un m_he m_ro m_wi m_hi m_hr m_hp m_rn m_rw m_rh m_n m_l m_b m_to m_hs m_ho m_tx m_ik m_wt m_ac m_ap m_pa m_im m_ri) : wh m_w m_h := by
  obtain ⟨a, b, hg, hT, hC, hM, hB, hP, hI, hL, hR⟩ := h
  obtain ⟨⟨h1, h2⟩, h3, h4⟩ := hg
  rw [hM.1, hM.2.1, wh, nI_toInt (by omega), nI_toInt (by omega)]
  omega
theorem R_mG {c_sr t_n t_r t_w s_w s_h s_c s_p s_s p_nx p_sz r_k r_r r_p l_z q_z : Int32} {t_t b_l b_b b_n r_t l_l l_b l_n q_l q_b q_n : Int64} {t_le s_cs s_ps s_ha s_en pk ik : Nat → Int32} {s_ro s_me s_be s_se s_co pl pb pn il ib im l_a q_a : Nat → Int64} {m_w m_h m_c m_s m_le m_un m_he m_ro m_wi m_hi m_hr m_hp m_rn m_rw m_rh : Int32} {m_n m_l m_b m_to m_hs : Int64} {m_ho m_tx m_ik m_wt : Nat → Int32} {m_ac m_ap m_pa m_im m_ri : Nat → Int64} (h : Rel c_sr t_n t_r t_w s_w s_h s_c s_p s_s p_nx p_sz r_k r_r r_p l_z q_z t_t b_l b_b b_n r_t l_l l_b l_n q_l q_b q_n t_le s_cs s_ps s_ha s_en pk ik s_ro s_me s_be s_se s_co pl pb pn il ib im l_a q_a m_w m_h m_c m_s m_le m_un m_he m_ro m_wi m_hi m_hr m_hp m_rn m_rw m_rh m_n m_l m_b m_to m_hs m_ho m_tx m_ik m_wt m_ac m_ap m_pa m_im m_ri) : mG m_w m_h m_c m_s := by
  have hw := R_wh h
  obtain ⟨a, b, hg, hT, hC, hM, hB, hP, hI, hL, hR⟩ := h
  refine ⟨hw, ?_, ?_⟩
  · rw [hM.1, hM.2.1, hM.2.2.1, pk_mul]
  · rw [hM.1, hM.2.1, hM.2.2.2.1, show (2 : Int32) = nI 2 from rfl, pk_mul, pk_mul, nI_add, nI_add]; rfl
theorem R_hR {c_sr t_n t_r t_w s_w s_h s_c s_p s_s p_nx p_sz r_k r_r r_p l_z q_z : Int32} {t_t b_l b_b b_n r_t l_l l_b l_n q_l q_b q_n : Int64} {t_le s_cs s_ps s_ha s_en pk ik : Nat → Int32} {s_ro s_me s_be s_se s_co pl pb pn il ib im l_a q_a : Nat → Int64} {m_w m_h m_c m_s m_le m_un m_he m_ro m_wi m_hi m_hr m_hp m_rn m_rw m_rh : Int32} {m_n m_l m_b m_to m_hs : Int64} {m_ho m_tx m_ik m_wt : Nat → Int32} {m_ac m_ap m_pa m_im m_ri : Nat → Int64} (h : Rel c_sr t_n t_r t_w s_w s_h s_c s_p s_s p_nx p_sz r_k r_r r_p l_z q_z t_t b_l b_b b_n r_t l_l l_b l_n q_l q_b q_n t_le s_cs s_ps s_ha s_en pk ik s_ro s_me s_be s_se s_co pl pb pn il ib im l_a q_a m_w m_h m_c m_s m_le m_un m_he m_ro m_wi m_hi m_hr m_hp m_rn m_rw m_rh m_n m_l m_b m_to m_hs m_ho m_tx m_ik m_wt m_ac m_ap m_pa m_im m_ri) : hRc m_w m_h m_c m_s m_ho m_ap := by
  obtain ⟨a, b, hg, hT, hC, ⟨rfl, rfl, rfl, rfl, hM⟩, hB, hP, hI, hL, hR⟩ := h
  exact rc_hRc hg hM.1 hM.2.2
theorem R_hn {c_sr t_n t_r t_w s_w s_h s_c s_p s_s p_nx p_sz r_k r_r r_p l_z q_z : Int32} {t_t b_l b_b b_n r_t l_l l_b l_n q_l q_b q_n : Int64} {t_le s_cs s_ps s_ha s_en pk ik : Nat → Int32} {s_ro s_me s_be s_se s_co pl pb pn il ib im l_a q_a : Nat → Int64} {m_w m_h m_c m_s m_le m_un m_he m_ro m_wi m_hi m_hr m_hp m_rn m_rw m_rh : Int32} {m_n m_l m_b m_to m_hs : Int64} {m_ho m_tx m_ik m_wt : Nat → Int32} {m_ac m_ap m_pa m_im m_ri : Nat → Int64} (h : Rel c_sr t_n t_r t_w s_w s_h s_c s_p s_s p_nx p_sz r_k r_r r_p l_z q_z t_t b_l b_b b_n r_t l_l l_b l_n q_l q_b q_n t_le s_cs s_ps s_ha s_en pk ik s_ro s_me s_be s_se s_co pl pb pn il ib im l_a q_a m_w m_h m_c m_s m_le m_un m_he m_ro m_wi m_hi m_hr m_hp m_rn m_rw m_rh m_n m_l m_b m_to m_hs m_ho m_tx m_ik m_wt m_ac m_ap m_pa m_im m_ri) : 0 ≤ m_rn.toInt ∧ m_rn.toInt ≤ 9400 := by
  obtain ⟨a, b, hg, hT, hC, hM, hB, hP, hI, hL, hR⟩ := h
  exact hR.1
theorem R_hu0 {c_sr t_n t_r t_w s_w s_h s_c s_p s_s p_nx p_sz r_k r_r r_p l_z q_z : Int32} {t_t b_l b_b b_n r_t l_l l_b l_n q_l q_b q_n : Int64} {t_le s_cs s_ps s_ha s_en pk ik : Nat → Int32} {s_ro s_me s_be s_se s_co pl pb pn il ib im l_a q_a : Nat → Int64} {m_w m_h m_c m_s m_le m_un m_he m_ro m_wi m_hi m_hr m_hp m_rn m_rw m_rh : Int32} {m_n m_l m_b m_to m_hs : Int64} {m_ho m_tx m_ik m_wt : Nat → Int32} {m_ac m_ap m_pa m_im m_ri : Nat → Int64} (h : Rel c_sr t_n t_r t_w s_w s_h s_c s_p s_s p_nx p_sz r_k r_r r_p l_z q_z t_t b_l b_b b_n r_t l_l l_b l_n q_l q_b q_n t_le s_cs s_ps s_ha s_en pk ik s_ro s_me s_be s_se s_co pl pb pn il ib im l_a q_a m_w m_h m_c m_s m_le m_un m_he m_ro m_wi m_hi m_hr m_hp m_rn m_rw m_rh m_n m_l m_b m_to m_hs m_ho m_tx m_ik m_wt m_ac m_ap m_pa m_im m_ri) : 0 ≤ m_un.toInt := by
  obtain ⟨a, b, hg, hT, hC, hM, hB, ⟨x, u, hx, hu, e1, e2, e3, h⟩, hI, hL, hR⟩ := h
  rw [e3, nI_toInt (by omega)]
  omega
theorem R_hu {c_sr t_n t_r t_w s_w s_h s_c s_p s_s p_nx p_sz r_k r_r r_p l_z q_z : Int32} {t_t b_l b_b b_n r_t l_l l_b l_n q_l q_b q_n : Int64} {t_le s_cs s_ps s_ha s_en pk ik : Nat → Int32} {s_ro s_me s_be s_se s_co pl pb pn il ib im l_a q_a : Nat → Int64} {m_w m_h m_c m_s m_le m_un m_he m_ro m_wi m_hi m_hr m_hp m_rn m_rw m_rh : Int32} {m_n m_l m_b m_to m_hs : Int64} {m_ho m_tx m_ik m_wt : Nat → Int32} {m_ac m_ap m_pa m_im m_ri : Nat → Int64} (h : Rel c_sr t_n t_r t_w s_w s_h s_c s_p s_s p_nx p_sz r_k r_r r_p l_z q_z t_t b_l b_b b_n r_t l_l l_b l_n q_l q_b q_n t_le s_cs s_ps s_ha s_en pk ik s_ro s_me s_be s_se s_co pl pb pn il ib im l_a q_a m_w m_h m_c m_s m_le m_un m_he m_ro m_wi m_hi m_hr m_hp m_rn m_rw m_rh m_n m_l m_b m_to m_hs m_ho m_tx m_ik m_wt m_ac m_ap m_pa m_im m_ri) : m_un.toInt ≤ 10 := by
  obtain ⟨a, b, hg, hT, hC, hM, hB, ⟨x, u, hx, hu, e1, e2, e3, h⟩, hI, hL, hR⟩ := h
  rw [e3, nI_toInt (by omega)]
  omega
theorem sim_type {c_sr t_n t_r t_w s_w s_h s_c s_p s_s p_nx p_sz r_k r_r r_p l_z q_z : Int32} {t_t b_l b_b b_n r_t l_l l_b l_n q_l q_b q_n : Int64} {t_le s_cs s_ps s_ha s_en pk ik : Nat → Int32} {s_ro s_me s_be s_se s_co pl pb pn il ib im l_a q_a : Nat → Int64} {m_w m_h m_c m_s m_le m_un m_he m_ro m_wi m_hi m_hr m_hp m_rn m_rw m_rh : Int32} {m_n m_l m_b m_to m_hs : Int64} {m_ho m_tx m_ik m_wt : Nat → Int32} {m_ac m_ap m_pa m_im m_ri : Nat → Int64} (h : Rel c_sr t_n t_r t_w s_w s_h s_c s_p s_s p_nx p_sz r_k r_r r_p l_z q_z t_t b_l b_b b_n r_t l_l l_b l_n q_l q_b q_n t_le s_cs s_ps s_ha s_en pk ik s_ro s_me s_be s_se s_co pl pb pn il ib im l_a q_a m_w m_h m_c m_s m_le m_un m_he m_ro m_wi m_hi m_hr m_hp m_rn m_rw m_rh m_n m_l m_b m_to m_hs m_ho m_tx m_ik m_wt m_ac m_ap m_pa m_im m_ri) (p1 : Int32) {r1 : Int32 × Int32 × (Nat → Int32)} {r2 : Int32 × Int32 × (Nat → Int32)} (h1 : f_X7_type p1 t_n t_le = r1) (h2 : f_X8_type p1 m_le m_tx = r2) : r1.1 = r2.1 ∧ Rel c_sr r1.2.1 t_r t_w s_w s_h s_c s_p s_s p_nx p_sz r_k r_r r_p l_z q_z t_t b_l b_b b_n r_t l_l l_b l_n q_l q_b q_n r1.2.2 s_cs s_ps s_ha s_en pk ik s_ro s_me s_be s_se s_co pl pb pn il ib im l_a q_a m_w m_h m_c m_s r2.2.1 m_un m_he m_ro m_wi m_hi m_hr m_hp m_rn m_rw m_rh m_n m_l m_b m_to m_hs m_ho r2.2.2 m_ik m_wt m_ac m_ap m_pa m_im m_ri := by
  obtain ⟨a, b, hg, ⟨n, hn, rfl, rfl, ht⟩, hC, hM, hB, hP, hI, hL, hR⟩ := h
  have ei : f_X8_in p1.toInt64 0 255 = if 0 ≤ p1.toInt ∧ p1.toInt ≤ 255 then 1 else 0 := by rw [in_val, Int32.toInt_toInt64]; rfl
  by_cases hp : 0 ≤ p1.toInt ∧ p1.toInt ≤ 255
  · have q1 : ¬ p1 < 0 := by rw [Int32.lt_iff_toInt_lt, Int32.toInt_zero]; omega
    have q2 : p1 ≤ 255 := by rw [Int32.le_iff_toInt_le, show (255 : Int32).toInt = 255 from rfl]; omega
    rw [if_pos hp] at ei
    rw [f_X7_type, if_neg q1, if_pos q2, bd, f_X6_takes, if_neg (nI_pos (by omega))] at h1
    rw [f_X8_type, ei, if_neg (by decide)] at h2
    by_cases q : n = 40
    · subst q
      rw [if_neg (show ¬ nI 40 < 40 by decide), if_pos rfl] at h1
      rw [if_pos (show nI 40 = 40 from rfl)] at h2
      subst h1; subst h2
      exact ⟨rfl, a, b, hg, ⟨40, hn, rfl, rfl, ht⟩, hC, hM, hB, hP, hI, hL, hR⟩
    · rw [if_pos (show nI n < 40 from nI_lt (b := 40) (by omega) (by decide)), if_neg (show ¬ ((1 : Int32) = 0) by decide), nI_1, nI_clamp (by omega)] at h1
      rw [if_neg (lit_ne 40 40 rfl q (by omega) (by decide)), nI_1, nI_clamp (by omega)] at h2
      subst h1; subst h2
      refine ⟨rfl, a, b, hg, ⟨n + 1, by omega, rfl, rfl, fun k hk => ?_⟩, hC, hM, hB, hP, hI, hL, hR⟩
      by_cases e : k = n
      · subst e; show upd t_le k p1 k = upd m_tx k p1 k; rw [pk_us, pk_us]
      · show upd t_le n p1 k = upd m_tx n p1 k; rw [pk_un e, pk_un e]; exact ht k (by omega)
  · rw [if_neg hp] at ei
    have e1 : f_X7_type p1 (nI n) t_le = (-1, nI n, t_le) := by
      unfold f_X7_type
      by_cases q1 : p1 < 0
      · rw [if_pos q1]
      · rw [if_neg q1, if_neg]
        rw [Int32.lt_iff_toInt_lt, Int32.toInt_zero] at q1
        rw [Int32.le_iff_toInt_le, show (255 : Int32).toInt = 255 from rfl]; omega
    rw [e1] at h1
    rw [f_X8_type, ei, if_pos rfl] at h2
    subst h1; subst h2
    exact ⟨rfl, a, b, hg, ⟨n, hn, rfl, rfl, ht⟩, hC, hM, hB, hP, hI, hL, hR⟩
theorem sim_clear {c_sr t_n t_r t_w s_w s_h s_c s_p s_s p_nx p_sz r_k r_r r_p l_z q_z : Int32} {t_t b_l b_b b_n r_t l_l l_b l_n q_l q_b q_n : Int64} {t_le s_cs s_ps s_ha s_en pk ik : Nat → Int32} {s_ro s_me s_be s_se s_co pl pb pn il ib im l_a q_a : Nat → Int64} {m_w m_h m_c m_s m_le m_un m_he m_ro m_wi m_hi m_hr m_hp m_rn m_rw m_rh : Int32} {m_n m_l m_b m_to m_hs : Int64} {m_ho m_tx m_ik m_wt : Nat → Int32} {m_ac m_ap m_pa m_im m_ri : Nat → Int64} (h : Rel c_sr t_n t_r t_w s_w s_h s_c s_p s_s p_nx p_sz r_k r_r r_p l_z q_z t_t b_l b_b b_n r_t l_l l_b l_n q_l q_b q_n t_le s_cs s_ps s_ha s_en pk ik s_ro s_me s_be s_se s_co pl pb pn il ib im l_a q_a m_w m_h m_c m_s m_le m_un m_he m_ro m_wi m_hi m_hr m_hp m_rn m_rw m_rh m_n m_l m_b m_to m_hs m_ho m_tx m_ik m_wt m_ac m_ap m_pa m_im m_ri) {r1 : Int32 × Int32} {r2 : Int32 × Int32} (h1 : f_X7_clear t_n = r1) (h2 : f_X8_clear m_le = r2) : r1.1 = r2.1 ∧ Rel c_sr r1.2 t_r t_w s_w s_h s_c s_p s_s p_nx p_sz r_k r_r r_p l_z q_z t_t b_l b_b b_n r_t l_l l_b l_n q_l q_b q_n t_le s_cs s_ps s_ha s_en pk ik s_ro s_me s_be s_se s_co pl pb pn il ib im l_a q_a m_w m_h m_c m_s r2.2 m_un m_he m_ro m_wi m_hi m_hr m_hp m_rn m_rw m_rh m_n m_l m_b m_to m_hs m_ho m_tx m_ik m_wt m_ac m_ap m_pa m_im m_ri := by
  subst h1; subst h2
  obtain ⟨a, b, hg, hT, hC, hM, hB, hP, hI, hL, hR⟩ := h
  obtain ⟨n, hn, e1, e2, ht⟩ := hT
  exact ⟨e1.trans e2.symm, a, b, hg, ⟨0, by omega, rfl, rfl, fun k hk => absurd hk (by omega)⟩, hC, hM, hB, hP, hI, hL, hR⟩
theorem sim_grid {c_sr t_n t_r t_w s_w s_h s_c s_p s_s p_nx p_sz r_k r_r r_p l_z q_z : Int32} {t_t b_l b_b b_n r_t l_l l_b l_n q_l q_b q_n : Int64} {t_le s_cs s_ps s_ha s_en pk ik : Nat → Int32} {s_ro s_me s_be s_se s_co pl pb pn il ib im l_a q_a : Nat → Int64} {m_w m_h m_c m_s m_le m_un m_he m_ro m_wi m_hi m_hr m_hp m_rn m_rw m_rh : Int32} {m_n m_l m_b m_to m_hs : Int64} {m_ho m_tx m_ik m_wt : Nat → Int32} {m_ac m_ap m_pa m_im m_ri : Nat → Int64} (h : Rel c_sr t_n t_r t_w s_w s_h s_c s_p s_s p_nx p_sz r_k r_r r_p l_z q_z t_t b_l b_b b_n r_t l_l l_b l_n q_l q_b q_n t_le s_cs s_ps s_ha s_en pk ik s_ro s_me s_be s_se s_co pl pb pn il ib im l_a q_a m_w m_h m_c m_s m_le m_un m_he m_ro m_wi m_hi m_hr m_hp m_rn m_rw m_rh m_n m_l m_b m_to m_hs m_ho m_tx m_ik m_wt m_ac m_ap m_pa m_im m_ri) {r1 : Int32 × Int32 × Int32 × Int32 × Int32 × Int32 × Int32 × Int32 × Int32 × Int32 × Int32 × Int64 × Int64 × Int64 × Int64 × (Nat → Int32) × (Nat → Int32) × (Nat → Int32) × (Nat → Int32) × (Nat → Int32) × (Nat → Int64) × (Nat → Int64) × (Nat → Int64) × (Nat → Int64) × (Nat → Int64)} {r2 : Int32 × Int32 × Int32 × Int32 × Int32 × Int32 × Int32 × Int32 × Int32 × Int32 × Int64 × Int64 × Int64 × Int64 × (Nat → Int32) × (Nat → Int32) × (Nat → Int64) × (Nat → Int64)} (h1 : f_X7_grid c_sr t_n s_w s_h s_c s_p s_s p_sz b_l b_b b_n t_le s_cs s_ps s_ha s_en ik s_ro s_me s_be s_se s_co = r1) (h2 : f_X8_grid m_w m_h m_c m_s m_le m_un m_n m_l m_b m_ho m_tx m_ik m_ac m_ap = r2) : r1.1 = r2.1 ∧ Rel r1.2.1 r1.2.2.1 r1.2.2.2.1 r1.2.2.2.2.1 r1.2.2.2.2.2.1 r1.2.2.2.2.2.2.1 r1.2.2.2.2.2.2.2.1 r1.2.2.2.2.2.2.2.2.1 r1.2.2.2.2.2.2.2.2.2.1 p_nx r1.2.2.2.2.2.2.2.2.2.2.1 r_k r_r r_p l_z q_z r1.2.2.2.2.2.2.2.2.2.2.2.1 r1.2.2.2.2.2.2.2.2.2.2.2.2.1 r1.2.2.2.2.2.2.2.2.2.2.2.2.2.1 r1.2.2.2.2.2.2.2.2.2.2.2.2.2.2.1 r_t l_l l_b l_n q_l q_b q_n t_le r1.2.2.2.2.2.2.2.2.2.2.2.2.2.2.2.1 r1.2.2.2.2.2.2.2.2.2.2.2.2.2.2.2.2.1 r1.2.2.2.2.2.2.2.2.2.2.2.2.2.2.2.2.2.1 r1.2.2.2.2.2.2.2.2.2.2.2.2.2.2.2.2.2.2.1 pk r1.2.2.2.2.2.2.2.2.2.2.2.2.2.2.2.2.2.2.2.1 r1.2.2.2.2.2.2.2.2.2.2.2.2.2.2.2.2.2.2.2.2.1 r1.2.2.2.2.2.2.2.2.2.2.2.2.2.2.2.2.2.2.2.2.2.1 r1.2.2.2.2.2.2.2.2.2.2.2.2.2.2.2.2.2.2.2.2.2.2.1 r1.2.2.2.2.2.2.2.2.2.2.2.2.2.2.2.2.2.2.2.2.2.2.2.1 r1.2.2.2.2.2.2.2.2.2.2.2.2.2.2.2.2.2.2.2.2.2.2.2.2 pl pb pn il ib im l_a q_a r2.2.1 r2.2.2.1 r2.2.2.2.1 r2.2.2.2.2.1 r2.2.2.2.2.2.1 r2.2.2.2.2.2.2.1 r2.2.2.2.2.2.2.2.1 r2.2.2.2.2.2.2.2.2.1 r2.2.2.2.2.2.2.2.2.2.1 m_hi m_hr m_hp m_rn m_rw m_rh r2.2.2.2.2.2.2.2.2.2.2.1 r2.2.2.2.2.2.2.2.2.2.2.2.1 r2.2.2.2.2.2.2.2.2.2.2.2.2.1 r2.2.2.2.2.2.2.2.2.2.2.2.2.2.1 m_hs r2.2.2.2.2.2.2.2.2.2.2.2.2.2.2.1 m_tx r2.2.2.2.2.2.2.2.2.2.2.2.2.2.2.2.1 m_wt r2.2.2.2.2.2.2.2.2.2.2.2.2.2.2.2.2.1 r2.2.2.2.2.2.2.2.2.2.2.2.2.2.2.2.2.2 m_pa m_im m_ri := by
  obtain ⟨a, b, hg, hT, hC, hM, hB, hP, hI, hL, hR⟩ := h
  rw [f_X7_grid, bd] at h1
  rw [f_X8_grid, bd] at h2
  rcases text_sim hT with ⟨j, hj, k1, k2, k3⟩ | ⟨a2, b2, he, t2, m2, hg2, k1, k2, k3⟩
  · have hne : ¬ (f_X6_read t_n t_le).1 = -1 := by
      rw [k3]
      intro e
      have := congrArg Int32.toInt e
      rw [nI_toInt (by omega), show (-1 : Int32).toInt = -1 from rfl] at this
      omega
    rw [if_neg hne, k3] at h1
    rw [if_pos k1, k2] at h2
    subst h1; subst h2
    exact ⟨rfl, a, b, hg, hT, hC, hM, hB, hP, hI, hL, hR⟩
  · have hn2 := gOK_lt hg2
    rw [k2] at h1
    rw [k1] at h2
    dsimp only at h1 h2
    rw [if_pos rfl] at h1
    rw [if_neg (show ¬ (1 : Int32) = 0 by decide), bd] at h2
    simp only [bd] at h1
    have hC2 := become_val hg2 (rfl : f_X4_become (nI a2) (nI b2) s_cs s_ps s_ha s_en s_ro s_me s_be s_se s_co = _)
    have hM2 := laysGrid_val hg2 (rfl : f_X8_laysGrid (nI a2) (nI b2) m_ho m_ac m_ap = _)
    generalize f_X4_become (nI a2) (nI b2) s_cs s_ps s_ha s_en s_ro s_me s_be s_se s_co = u at h1 hC2
    generalize f_X8_laysGrid (nI a2) (nI b2) m_ho m_ac m_ap = v at h2 hM2
    obtain ⟨m3, g1, g2⟩ := F_g48 (t := t2) (fun z3 => (nI b2, nI a2, nI b2, v.1, v.2.1, (0 : Int32), (0 : Int32), he, nI b2, nI a2, z3, (0 : Int64), (0 : Int64), m2, v.2.2.1, upd (upd m_ik (0 : Int32).toNatClampNeg (vp_nar .boolean 0)) (1 : Int32).toNatClampNeg (vp_nar .boolean 0), v.2.2.2.1, v.2.2.2.2)) (16 - a2 * b2 + 1) (a2 * b2) m2 (by omega) (by omega) k3
    have hfu : fu 16 v.1 = 16 - a2 * b2 + 1 := by rw [hM2.2.2.1, show (16 : Int32) = nI 16 from rfl, fuNI (by decide) (by omega)]
    rw [hfu] at h2
    rw [← hM2.2.2.1] at g1
    rw [g1] at h2
    subst h1; subst h2
    refine ⟨hC2.2.1, a2, b2, hg2, ⟨0, by omega, rfl, rfl, fun k hk => absurd hk (by omega)⟩, hC2, hM2, ⟨rfl, rfl, g2, (show (0 : Int64) &&& 0 = 0 by decide), fun k _ => ⟨bt_zero k, bt_zero k⟩⟩, ?_, ?_, Or.inl rfl, hR⟩
    · obtain ⟨x, y, hx, hy, e1, e2, e3, hh⟩ := hP
      exact ⟨x, 0, hx, by omega, e1, rfl, rfl, fun i hi => absurd hi (by omega)⟩
    · intro i hi
      have z1 : f_X5_forget_b ik i = 0 := fi_val 0 (by decide) ik i hi
      have z2 : upd (upd m_ik (0 : Int32).toNatClampNeg (vp_nar .boolean 0)) (1 : Int32).toNatClampNeg (vp_nar .boolean 0) i = 0 := by
        rw [show (0 : Int32).toNatClampNeg = 0 from rfl, show (1 : Int32).toNatClampNeg = 1 from rfl, show vp_nar .boolean 0 = 0 from rfl, upd_at, upd_at]
        rcases (show i = 0 ∨ i = 1 by omega) with rfl | rfl
        · rfl
        · rfl
      show (f_X5_forget_b ik i = 1 ↔ ¬ upd (upd m_ik (0 : Int32).toNatClampNeg (vp_nar .boolean 0)) (1 : Int32).toNatClampNeg (vp_nar .boolean 0) i = 0) ∧ (f_X5_forget_b ik i = 1 → _)
      rw [z1, z2]
      exact ⟨⟨fun e => absurd e (by decide), fun e => absurd rfl e⟩, fun e => absurd e (by decide)⟩
theorem sim_number {c_sr t_n t_r t_w s_w s_h s_c s_p s_s p_nx p_sz r_k r_r r_p l_z q_z : Int32} {t_t b_l b_b b_n r_t l_l l_b l_n q_l q_b q_n : Int64} {t_le s_cs s_ps s_ha s_en pk ik : Nat → Int32} {s_ro s_me s_be s_se s_co pl pb pn il ib im l_a q_a : Nat → Int64} {m_w m_h m_c m_s m_le m_un m_he m_ro m_wi m_hi m_hr m_hp m_rn m_rw m_rh : Int32} {m_n m_l m_b m_to m_hs : Int64} {m_ho m_tx m_ik m_wt : Nat → Int32} {m_ac m_ap m_pa m_im m_ri : Nat → Int64} (h : Rel c_sr t_n t_r t_w s_w s_h s_c s_p s_s p_nx p_sz r_k r_r r_p l_z q_z t_t b_l b_b b_n r_t l_l l_b l_n q_l q_b q_n t_le s_cs s_ps s_ha s_en pk ik s_ro s_me s_be s_se s_co pl pb pn il ib im l_a q_a m_w m_h m_c m_s m_le m_un m_he m_ro m_wi m_hi m_hr m_hp m_rn m_rw m_rh m_n m_l m_b m_to m_hs m_ho m_tx m_ik m_wt m_ac m_ap m_pa m_im m_ri) (p1 : Int32) {r1 : Int32} {r2 : Int32} (h1 : f_X7_number p1 s_c b_n = r1) (h2 : f_X8_number p1 m_c m_n = r2) : r1 = r2 ∧ Rel c_sr t_n t_r t_w s_w s_h s_c s_p s_s p_nx p_sz r_k r_r r_p l_z q_z t_t b_l b_b b_n r_t l_l l_b l_n q_l q_b q_n t_le s_cs s_ps s_ha s_en pk ik s_ro s_me s_be s_se s_co pl pb pn il ib im l_a q_a m_w m_h m_c m_s m_le m_un m_he m_ro m_wi m_hi m_hr m_hp m_rn m_rw m_rh m_n m_l m_b m_to m_hs m_ho m_tx m_ik m_wt m_ac m_ap m_pa m_im m_ri := by
  refine ⟨?_, h⟩
  obtain ⟨a, b, hg, hT, hC, hM, hB, hP, hI, hL, hR⟩ := h
  have hn := gOK_lt hg
  rw [← h1, ← h2, f_X7_number, f_X8_number, hC.2.2.1, hM.2.2.1, isCell_eq p1 hn.1.1 (by omega)]
  by_cases q : f_X4_hasCell p1 (nI (a * b)) = 0
  · rw [if_pos q, if_pos q]
  · rw [if_neg q, if_neg q]
    obtain ⟨k, hk, rfl⟩ := has_of (by omega) q
    rw [f_X0_numberOf, nRel_in hB.2.2.1 (show k < 16 by omega), nAt_val m_n (show k < 16 by omega)]
    have h3 := (hB.2.2.1 k (by omega)).1
    by_cases e : fld 3 m_n k = 5
    · rw [if_pos e, e, if_neg (by decide), if_pos (by decide)]
    · rw [if_neg e, if_pos (nI_pos' (by omega)), if_neg (lit_ne 5 5 rfl e (by omega) (by decide))]
theorem sim_side {c_sr t_n t_r t_w s_w s_h s_c s_p s_s p_nx p_sz r_k r_r r_p l_z q_z : Int32} {t_t b_l b_b b_n r_t l_l l_b l_n q_l q_b q_n : Int64} {t_le s_cs s_ps s_ha s_en pk ik : Nat → Int32} {s_ro s_me s_be s_se s_co pl pb pn il ib im l_a q_a : Nat → Int64} {m_w m_h m_c m_s m_le m_un m_he m_ro m_wi m_hi m_hr m_hp m_rn m_rw m_rh : Int32} {m_n m_l m_b m_to m_hs : Int64} {m_ho m_tx m_ik m_wt : Nat → Int32} {m_ac m_ap m_pa m_im m_ri : Nat → Int64} (h : Rel c_sr t_n t_r t_w s_w s_h s_c s_p s_s p_nx p_sz r_k r_r r_p l_z q_z t_t b_l b_b b_n r_t l_l l_b l_n q_l q_b q_n t_le s_cs s_ps s_ha s_en pk ik s_ro s_me s_be s_se s_co pl pb pn il ib im l_a q_a m_w m_h m_c m_s m_le m_un m_he m_ro m_wi m_hi m_hr m_hp m_rn m_rw m_rh m_n m_l m_b m_to m_hs m_ho m_tx m_ik m_wt m_ac m_ap m_pa m_im m_ri) (p1 : Int32) {r1 : Int32} {r2 : Int32} (h1 : f_X7_side p1 s_s b_l b_b = r1) (h2 : f_X8_side p1 m_s m_l m_b = r2) : r1 = r2 ∧ Rel c_sr t_n t_r t_w s_w s_h s_c s_p s_s p_nx p_sz r_k r_r r_p l_z q_z t_t b_l b_b b_n r_t l_l l_b l_n q_l q_b q_n t_le s_cs s_ps s_ha s_en pk ik s_ro s_me s_be s_se s_co pl pb pn il ib im l_a q_a m_w m_h m_c m_s m_le m_un m_he m_ro m_wi m_hi m_hr m_hp m_rn m_rw m_rh m_n m_l m_b m_to m_hs m_ho m_tx m_ik m_wt m_ac m_ap m_pa m_im m_ri := by
  refine ⟨?_, h⟩
  obtain ⟨a, b, hg, hT, hC, hM, hB, hP, hI, hL, hR⟩ := h
  have hn := gOK_lt hg
  rw [← h1, ← h2, f_X7_side, f_X8_side, hC.2.2.2.2.1, hM.2.2.2.1, isSide_eq p1 (by omega) (by omega), hB.1, hB.2.1]
  by_cases q : f_X4_hasSide p1 (nI (sdN a b)) = 0
  · rw [if_pos q, if_pos q]
  · rw [if_neg q, if_neg q]
    obtain ⟨k, hk, rfl⟩ := has_of (by omega) q
    exact state_eq (by omega)
theorem sim_sideOf {c_sr t_n t_r t_w s_w s_h s_c s_p s_s p_nx p_sz r_k r_r r_p l_z q_z : Int32} {t_t b_l b_b b_n r_t l_l l_b l_n q_l q_b q_n : Int64} {t_le s_cs s_ps s_ha s_en pk ik : Nat → Int32} {s_ro s_me s_be s_se s_co pl pb pn il ib im l_a q_a : Nat → Int64} {m_w m_h m_c m_s m_le m_un m_he m_ro m_wi m_hi m_hr m_hp m_rn m_rw m_rh : Int32} {m_n m_l m_b m_to m_hs : Int64} {m_ho m_tx m_ik m_wt : Nat → Int32} {m_ac m_ap m_pa m_im m_ri : Nat → Int64} (h : Rel c_sr t_n t_r t_w s_w s_h s_c s_p s_s p_nx p_sz r_k r_r r_p l_z q_z t_t b_l b_b b_n r_t l_l l_b l_n q_l q_b q_n t_le s_cs s_ps s_ha s_en pk ik s_ro s_me s_be s_se s_co pl pb pn il ib im l_a q_a m_w m_h m_c m_s m_le m_un m_he m_ro m_wi m_hi m_hr m_hp m_rn m_rw m_rh m_n m_l m_b m_to m_hs m_ho m_tx m_ik m_wt m_ac m_ap m_pa m_im m_ri) (p1 : Int32) (p2 : Int32) (p3 : Int32) {r1 : Int32} {r2 : Int32} (h1 : f_X7_sideOf p1 p2 p3 s_c s_p s_cs s_ps = r1) (h2 : f_X8_sideOf p1 p2 p3 m_w m_h m_c = r2) : r1 = r2 ∧ Rel c_sr t_n t_r t_w s_w s_h s_c s_p s_s p_nx p_sz r_k r_r r_p l_z q_z t_t b_l b_b b_n r_t l_l l_b l_n q_l q_b q_n t_le s_cs s_ps s_ha s_en pk ik s_ro s_me s_be s_se s_co pl pb pn il ib im l_a q_a m_w m_h m_c m_s m_le m_un m_he m_ro m_wi m_hi m_hr m_hp m_rn m_rw m_rh m_n m_l m_b m_to m_hs m_ho m_tx m_ik m_wt m_ac m_ap m_pa m_im m_ri := by
  refine ⟨?_, h⟩
  obtain ⟨a, b, hg, hT, hC, hM, hB, hP, hI, hL, hR⟩ := h
  have hn := gOK_lt hg
  obtain ⟨⟨ga1, ga2⟩, gb1, gb2⟩ := id hg
  have ei : f_X8_in p3.toInt64 0 3 = if 0 ≤ p3.toInt ∧ p3.toInt ≤ 3 then 1 else 0 := by rw [in_val, Int32.toInt_toInt64]; rfl
  have e1 : f_X8_in p1.toInt64 0 1 = if 0 ≤ p1.toInt ∧ p1.toInt ≤ 1 then 1 else 0 := by rw [in_val, Int32.toInt_toInt64]; rfl
  have ec : f_X8_in p2.toInt64 0 ((m_c - 1).toInt64) = f_X4_hasCell p2 s_c := by rw [hC.2.2.1, hM.2.2.1]; exact isCell_eq p2 (by omega) (by omega)
  have ep : f_X8_in p2.toInt64 0 ((f_X8_points m_w m_h - 1).toInt64) = f_X4_hasPoint p2 s_p := by
    rw [hC.2.2.2.1, f_X8_points, hM.1, hM.2.1, nI_1, nI_1, pk_mul]
    exact isCell_eq p2 (by omega) (by omega)
  rw [← h1, ← h2, f_X7_sideOf, f_X8_sideOf, ec, ep]
  have hq : (¬ p3 < 0 ∧ p3 ≤ 3) ↔ (0 ≤ p3.toInt ∧ p3.toInt ≤ 3) := by rw [Int32.lt_iff_toInt_lt, Int32.le_iff_toInt_le, Int32.toInt_zero, show (3 : Int32).toInt = 3 from rfl]; omega
  by_cases hp3 : 0 ≤ p3.toInt ∧ p3.toInt ≤ 3
  · rw [if_pos hp3] at ei
    obtain ⟨q1, q2⟩ := hq.mpr hp3
    rw [if_neg q1, if_pos q2, ei]
    obtain ⟨i, hi, rfl⟩ := i32_of (x := p3) (n := 3) hp3.1 hp3.2 (by decide)
    by_cases z0 : p1 = 0
    · subst z0
      rw [if_pos rfl, if_neg (show ¬ f_X8_in (0 : Int32).toInt64 0 1 = 0 by decide), if_pos rfl, if_neg (show ¬ (1 : Int32) = 0 by decide), if_pos rfl]
      by_cases q : f_X4_hasCell p2 s_c = 0
      · rw [if_pos q, if_pos q]
      · rw [if_neg q, if_neg q]
        rw [hC.2.2.1] at q
        obtain ⟨k, hk, rfl⟩ := has_of (by omega) q
        rw [hM.1, hM.2.1, sc_all ⟨a, by omega⟩ ⟨b, by omega⟩ ga1 gb1 ⟨k, by omega⟩ hk ⟨i, by omega⟩, f_X4_sideOfCell, show (4 : Int32) = nI 4 from rfl, pk_mul, nI_add, atI_val _ (by omega) (by decide), Nat.mul_comm k 4]
        exact hC.2.2.2.2.2.1 k hk i (by omega)
    · rw [if_neg z0, if_neg z0]
      by_cases z1 : p1 = 1
      · subst z1
        rw [if_pos rfl, if_neg (show ¬ f_X8_in (1 : Int32).toInt64 0 1 = 0 by decide), if_neg (show ¬ (1 : Int32) = 0 by decide), if_neg (show ¬ (1 : Int32) = 0 by decide)]
        by_cases q : f_X4_hasPoint p2 s_p = 0
        · rw [if_pos q, if_pos q]
        · rw [if_neg q, if_neg q]
          rw [hC.2.2.2.1] at q
          obtain ⟨k, hk, rfl⟩ := has_of (by omega) q
          rw [hM.1, hM.2.1, sp_all ⟨a, by omega⟩ ⟨b, by omega⟩ ga1 gb1 ⟨k, by omega⟩ hk ⟨i, by omega⟩, f_X4_sideOfPoint, show (4 : Int32) = nI 4 from rfl, pk_mul, nI_add, atI_val _ (by omega) (by decide), Nat.mul_comm k 4]
          exact hC.2.2.2.2.2.2.1 k hk i (by omega)
      · rw [if_neg z1]
        have : ¬ (0 ≤ p1.toInt ∧ p1.toInt ≤ 1) := by
          rintro ⟨g1, g2⟩
          obtain ⟨j, hj, rfl⟩ := i32_of (x := p1) (n := 1) g1 g2 (by decide)
          rcases (show j = 0 ∨ j = 1 by omega) with rfl | rfl
          · exact z0 rfl
          · exact z1 rfl
        rw [e1, if_neg this, if_pos rfl]
  · rw [if_neg hp3] at ei
    rw [ei, if_pos rfl]
    have hl : ∀ y : Int32, (if p3 < 0 then (-1 : Int32) else (if p3 ≤ 3 then y else (-1))) = -1 := by
      intro y
      by_cases q1 : p3 < 0
      · rw [if_pos q1]
      · rw [if_neg q1, if_neg (fun q2 => hp3 (hq.mp ⟨q1, q2⟩))]
    rw [hl]
    repeat' split
    all_goals rfl
theorem sim_marks {c_sr t_n t_r t_w s_w s_h s_c s_p s_s p_nx p_sz r_k r_r r_p l_z q_z : Int32} {t_t b_l b_b b_n r_t l_l l_b l_n q_l q_b q_n : Int64} {t_le s_cs s_ps s_ha s_en pk ik : Nat → Int32} {s_ro s_me s_be s_se s_co pl pb pn il ib im l_a q_a : Nat → Int64} {m_w m_h m_c m_s m_le m_un m_he m_ro m_wi m_hi m_hr m_hp m_rn m_rw m_rh : Int32} {m_n m_l m_b m_to m_hs : Int64} {m_ho m_tx m_ik m_wt : Nat → Int32} {m_ac m_ap m_pa m_im m_ri : Nat → Int64} (h : Rel c_sr t_n t_r t_w s_w s_h s_c s_p s_s p_nx p_sz r_k r_r r_p l_z q_z t_t b_l b_b b_n r_t l_l l_b l_n q_l q_b q_n t_le s_cs s_ps s_ha s_en pk ik s_ro s_me s_be s_se s_co pl pb pn il ib im l_a q_a m_w m_h m_c m_s m_le m_un m_he m_ro m_wi m_hi m_hr m_hp m_rn m_rw m_rh m_n m_l m_b m_to m_hs m_ho m_tx m_ik m_wt m_ac m_ap m_pa m_im m_ri) (p1 : Int32) (p2 : Int32) {r1 : Int32 × Int32 × Int32 × Int32 × Int64 × Int64 × (Nat → Int32) × (Nat → Int64) × (Nat → Int64) × (Nat → Int64)} {r2 : Int32 × Int32 × Int64 × Int64 × (Nat → Int64)} (h1 : f_X7_marks p1 p2 c_sr s_s p_nx p_sz b_l b_b b_n pk pl pb pn = r1) (h2 : f_X8_marks p1 p2 m_s m_un m_n m_l m_b m_pa = r2) : r1.1 = r2.1 ∧ Rel r1.2.1 t_n t_r t_w s_w s_h s_c s_p s_s r1.2.2.1 r1.2.2.2.1 r_k r_r r_p l_z q_z t_t r1.2.2.2.2.1 r1.2.2.2.2.2.1 b_n r_t l_l l_b l_n q_l q_b q_n t_le s_cs s_ps s_ha s_en r1.2.2.2.2.2.2.1 ik s_ro s_me s_be s_se s_co r1.2.2.2.2.2.2.2.1 r1.2.2.2.2.2.2.2.2.1 r1.2.2.2.2.2.2.2.2.2 il ib im l_a q_a m_w m_h m_c m_s m_le r2.2.1 m_he m_ro m_wi m_hi m_hr m_hp m_rn m_rw m_rh m_n r2.2.2.1 r2.2.2.2.1 m_to m_hs m_ho m_tx m_ik m_wt m_ac m_ap r2.2.2.2.2 m_im m_ri := by
  obtain ⟨a, b, hg, hT, hC, hM, hB, hP, hI, hL, hR⟩ := h
  have hn := gOK_lt hg
  have es : ∀ k, k < sdN a b → f_X8_side (nI k) m_s m_l m_b = f_X0_stateOf (nI k) b_l b_b := by
    intro k hk
    have q : ¬ f_X8_isSide (nI k) m_s = 0 := by
      rw [hM.2.2.2.1, isSide_eq _ (by omega) (by omega), hasS_rng _ (by omega), nI_toInt (by omega), if_pos (by omega)]; decide
    rw [f_X8_side, if_neg q, hB.1, hB.2.1, state_eq (by omega)]
  have ei : f_X8_in p2.toInt64 0 2 = if 0 ≤ p2.toInt ∧ p2.toInt ≤ 2 then 1 else 0 := by rw [in_val, Int32.toInt_toInt64]; rfl
  have e0 : f_X8_isSide p1 m_s = f_X4_hasSide p1 s_s := by rw [hC.2.2.2.2.1, hM.2.2.2.1, isSide_eq p1 (by omega) (by omega)]
  by_cases q : f_X4_hasSide p1 s_s = 0
  · rw [f_X7_marks, if_pos q] at h1
    rw [f_X8_marks, e0, if_pos q] at h2
    subst h1; subst h2
    exact ⟨rfl, a, b, hg, hT, hC, hM, hB, hP, hI, hL, hR⟩
  · rw [f_X7_marks, if_neg q] at h1
    rw [f_X8_marks, e0, if_neg q] at h2
    rw [hC.2.2.2.2.1] at q
    obtain ⟨k, hk, rfl⟩ := has_of (by omega) q
    by_cases hp : 0 ≤ p2.toInt ∧ p2.toInt ≤ 2
    · have q1 : ¬ p2 < 0 := by rw [Int32.lt_iff_toInt_lt, Int32.toInt_zero]; omega
      have q2 : p2 ≤ 2 := by rw [Int32.le_iff_toInt_le, show (2 : Int32).toInt = 2 from rfl]; omega
      rw [if_pos hp] at ei
      rw [if_neg q1, if_pos q2] at h1
      rw [ei, if_neg (by decide), es k hk] at h2
      by_cases q3 : f_X0_stateOf (nI k) b_l b_b = p2
      · rw [if_pos q3] at h1 h2
        subst h1; subst h2
        exact ⟨rfl, a, b, hg, hT, hC, hM, hB, hP, hI, hL, hR⟩
      · rw [if_neg q3] at h1 h2
        simp only [bd] at h1 h2
        obtain ⟨g1, g2⟩ := past_sim (pk := pk) hP hB
        obtain ⟨g3, g4⟩ := mark_sim (as := p2) (show sdN a b ≤ 40 by omega) hk hB.2.2.2
        subst h1; subst h2
        refine ⟨rfl, a, b, hg, hT, hC, hM, ⟨?_, ?_, hB.2.2.1, g4⟩, g2, hI, Or.inl g1, hR⟩
        · show (f_X0_mark (nI k) p2 b_l b_b).1 = (f_X8_sets (shlL 1 (nI k)) p2 m_l m_b).1
          rw [g3, hB.1, hB.2.1]
        · show (f_X0_mark (nI k) p2 b_l b_b).2 = (f_X8_sets (shlL 1 (nI k)) p2 m_l m_b).2
          rw [g3, hB.1, hB.2.1]
    · rw [if_neg hp] at ei
      rw [ei, if_pos rfl] at h2
      have e1 : r1 = ((-1 : Int32), c_sr, p_nx, p_sz, b_l, b_b, pk, pl, pb, pn) := by
        by_cases q1 : p2 < 0
        · rw [if_pos q1] at h1; exact h1.symm
        · rw [if_neg q1, if_neg] at h1
          · exact h1.symm
          · rw [Int32.lt_iff_toInt_lt, Int32.toInt_zero] at q1
            rw [Int32.le_iff_toInt_le, show (2 : Int32).toInt = 2 from rfl]; omega
      subst e1; subst h2
      exact ⟨rfl, a, b, hg, hT, hC, hM, hB, hP, hI, hL, hR⟩
theorem sim_numbers {c_sr t_n t_r t_w s_w s_h s_c s_p s_s p_nx p_sz r_k r_r r_p l_z q_z : Int32} {t_t b_l b_b b_n r_t l_l l_b l_n q_l q_b q_n : Int64} {t_le s_cs s_ps s_ha s_en pk ik : Nat → Int32} {s_ro s_me s_be s_se s_co pl pb pn il ib im l_a q_a : Nat → Int64} {m_w m_h m_c m_s m_le m_un m_he m_ro m_wi m_hi m_hr m_hp m_rn m_rw m_rh : Int32} {m_n m_l m_b m_to m_hs : Int64} {m_ho m_tx m_ik m_wt : Nat → Int32} {m_ac m_ap m_pa m_im m_ri : Nat → Int64} (h : Rel c_sr t_n t_r t_w s_w s_h s_c s_p s_s p_nx p_sz r_k r_r r_p l_z q_z t_t b_l b_b b_n r_t l_l l_b l_n q_l q_b q_n t_le s_cs s_ps s_ha s_en pk ik s_ro s_me s_be s_se s_co pl pb pn il ib im l_a q_a m_w m_h m_c m_s m_le m_un m_he m_ro m_wi m_hi m_hr m_hp m_rn m_rw m_rh m_n m_l m_b m_to m_hs m_ho m_tx m_ik m_wt m_ac m_ap m_pa m_im m_ri) (p1 : Int32) (p2 : Int32) {r1 : Int32 × Int32 × Int32 × Int32 × Int64 × (Nat → Int32) × (Nat → Int64) × (Nat → Int64) × (Nat → Int64)} {r2 : Int32 × Int32 × Int64 × (Nat → Int64)} (h1 : f_X7_numbers p1 p2 c_sr s_c p_nx p_sz b_l b_b b_n pk pl pb pn = r1) (h2 : f_X8_numbers p1 p2 m_c m_un m_n m_l m_b m_pa = r2) : r1.1 = r2.1 ∧ Rel r1.2.1 t_n t_r t_w s_w s_h s_c s_p s_s r1.2.2.1 r1.2.2.2.1 r_k r_r r_p l_z q_z t_t b_l b_b r1.2.2.2.2.1 r_t l_l l_b l_n q_l q_b q_n t_le s_cs s_ps s_ha s_en r1.2.2.2.2.2.1 ik s_ro s_me s_be s_se s_co r1.2.2.2.2.2.2.1 r1.2.2.2.2.2.2.2.1 r1.2.2.2.2.2.2.2.2 il ib im l_a q_a m_w m_h m_c m_s m_le r2.2.1 m_he m_ro m_wi m_hi m_hr m_hp m_rn m_rw m_rh r2.2.2.1 m_l m_b m_to m_hs m_ho m_tx m_ik m_wt m_ac m_ap r2.2.2.2 m_im m_ri := by
  obtain ⟨a, b, hg, hT, hC, hM, hB, hP, hI, hL, hR⟩ := h
  have hn := gOK_lt hg
  have ei : f_X8_in p2.toInt64 (-1) 4 = if -1 ≤ p2.toInt ∧ p2.toInt ≤ 4 then 1 else 0 := by rw [in_val, Int32.toInt_toInt64]; rfl
  have e0 : f_X8_isCell p1 m_c = f_X4_hasCell p1 s_c := by rw [hC.2.2.1, hM.2.2.1, isCell_eq p1 (by omega) (by omega)]
  by_cases q : f_X4_hasCell p1 s_c = 0
  · rw [f_X7_numbers, if_pos q] at h1
    rw [f_X8_numbers, e0, if_pos q] at h2
    subst h1; subst h2
    exact ⟨rfl, a, b, hg, hT, hC, hM, hB, hP, hI, hL, hR⟩
  · rw [f_X7_numbers, if_neg q] at h1
    rw [f_X8_numbers, e0, if_neg q] at h2
    rw [hC.2.2.1] at q
    obtain ⟨k, hk, rfl⟩ := has_of (by omega) q
    have hk16 : k < 16 := by omega
    have h3 := (hB.2.2.1 k hk16).1
    have en := nRel_in hB.2.2.1 hk16
    have em := nAt_val m_n hk16
    obtain ⟨g1, g2⟩ := past_sim (pk := pk) hP hB
    by_cases hp : -1 ≤ p2.toInt ∧ p2.toInt ≤ 4
    · have q1 : ¬ p2 < -1 := by rw [Int32.lt_iff_toInt_lt, show (-1 : Int32).toInt = -1 from rfl]; omega
      have q2 : p2 ≤ 4 := by rw [Int32.le_iff_toInt_le, show (4 : Int32).toInt = 4 from rfl]; omega
      rw [if_pos hp] at ei
      rw [if_neg q1, if_pos q2, f_X0_numberOf, en] at h1
      rw [ei, if_neg (by decide), em] at h2
      simp only [bd] at h1 h2
      by_cases q3 : 0 ≤ p2.toInt
      · obtain ⟨v, hv, rfl⟩ := i32_of (x := p2) (n := 4) q3 (by omega) (by decide)
        rw [if_pos (nI_pos' (by omega))] at h2
        by_cases q4 : fld 3 m_n k = v
        · rw [if_neg (show ¬ fld 3 m_n k = 5 by omega), q4, if_pos rfl] at h1
          rw [q4, if_pos rfl] at h2
          subst h1; subst h2
          exact ⟨rfl, a, b, hg, hT, hC, hM, hB, hP, hI, hL, hR⟩
        · have q5 : ¬ (if fld 3 m_n k = 5 then (-1 : Int32) else nI (fld 3 m_n k)) = nI v := by
            split
            · intro e
              have := congrArg Int32.toInt e
              rw [nI_toInt (by omega), show (-1 : Int32).toInt = -1 from rfl] at this
              omega
            · exact fun e => q4 ((nI_eq (by omega) (by omega)).mp e)
          rw [if_neg q5, withNumber_set b_n (v := v + 1) (nI v) hk16 (nI_1 v) (by omega)] at h1
          rw [if_neg (fun e => q4 ((nI_eq (by omega) (by omega)).mp e)), nI_l (by omega), becomes_set m_n hk16] at h2
          subst h1; subst h2
          have hs := nRel_set (v := v) hB.2.2.1 hk16 (by omega)
          rw [if_neg (show ¬ v = 5 by omega)] at hs
          exact ⟨rfl, a, b, hg, hT, hC, hM, ⟨hB.1, hB.2.1, hs, hB.2.2.2⟩, g2, hI, Or.inl g1, hR⟩
      · have ep : p2 = -1 := Int32.toInt_inj.mp (by rw [show (-1 : Int32).toInt = -1 from rfl]; omega)
        subst ep
        rw [if_neg (show ¬ (0 : Int32) ≤ -1 by decide)] at h2
        by_cases q4 : fld 3 m_n k = 5
        · rw [if_pos q4, if_pos rfl] at h1
          rw [q4, if_pos (show nI 5 = 5 from rfl)] at h2
          subst h1; subst h2
          exact ⟨rfl, a, b, hg, hT, hC, hM, hB, hP, hI, hL, hR⟩
        · have q5 : ¬ nI (fld 3 m_n k) = -1 := by
            intro e
            have := congrArg Int32.toInt e
            rw [nI_toInt (by omega), show (-1 : Int32).toInt = -1 from rfl] at this
            omega
          rw [if_neg q4, if_neg q5, withNumber_set b_n (v := 0) (-1) hk16 (by decide) (by omega)] at h1
          rw [if_neg (lit_ne 5 5 rfl q4 (by omega) (by decide)), show (5 : Int32).toInt64 = lN 5 by decide, becomes_set m_n hk16] at h2
          subst h1; subst h2
          have hs := nRel_set (v := 5) hB.2.2.1 hk16 (by omega)
          rw [if_pos rfl] at hs
          exact ⟨rfl, a, b, hg, hT, hC, hM, ⟨hB.1, hB.2.1, hs, hB.2.2.2⟩, g2, hI, Or.inl g1, hR⟩
    · rw [if_neg hp] at ei
      rw [ei, if_pos rfl] at h2
      have e1 : r1 = ((-1 : Int32), c_sr, p_nx, p_sz, b_n, pk, pl, pb, pn) := by
        by_cases q1 : p2 < -1
        · rw [if_pos q1] at h1; exact h1.symm
        · rw [if_neg q1, if_neg] at h1
          · exact h1.symm
          · rw [Int32.lt_iff_toInt_lt, show (-1 : Int32).toInt = -1 from rfl] at q1
            rw [Int32.le_iff_toInt_le, show (4 : Int32).toInt = 4 from rfl]; omega
      subst e1; subst h2
      exact ⟨rfl, a, b, hg, hT, hC, hM, hB, hP, hI, hL, hR⟩
theorem sim_step {c_sr t_n t_r t_w s_w s_h s_c s_p s_s p_nx p_sz r_k r_r r_p l_z q_z : Int32} {t_t b_l b_b b_n r_t l_l l_b l_n q_l q_b q_n : Int64} {t_le s_cs s_ps s_ha s_en pk ik : Nat → Int32} {s_ro s_me s_be s_se s_co pl pb pn il ib im l_a q_a : Nat → Int64} {m_w m_h m_c m_s m_le m_un m_he m_ro m_wi m_hi m_hr m_hp m_rn m_rw m_rh : Int32} {m_n m_l m_b m_to m_hs : Int64} {m_ho m_tx m_ik m_wt : Nat → Int32} {m_ac m_ap m_pa m_im m_ri : Nat → Int64} (h : Rel c_sr t_n t_r t_w s_w s_h s_c s_p s_s p_nx p_sz r_k r_r r_p l_z q_z t_t b_l b_b b_n r_t l_l l_b l_n q_l q_b q_n t_le s_cs s_ps s_ha s_en pk ik s_ro s_me s_be s_se s_co pl pb pn il ib im l_a q_a m_w m_h m_c m_s m_le m_un m_he m_ro m_wi m_hi m_hr m_hp m_rn m_rw m_rh m_n m_l m_b m_to m_hs m_ho m_tx m_ik m_wt m_ac m_ap m_pa m_im m_ri) {r1 : Int32 × Int32 × Int32 × Int32 × Int32 × Int32 × Int32 × Int64 × Int64 × Int64 × (Nat → Int32) × (Nat → Int64) × (Nat → Int64) × (Nat → Int64)} {r2 : Int32 × Int32 × Int32 × Int32 × Int32 × Int64 × Int64 × Int64 × (Nat → Int64)} (h1 : f_X7_step c_sr s_c s_p s_s p_nx p_sz r_p b_l b_b b_n s_ha s_en pk s_ro s_me s_be pl pb pn = r1) (h2 : f_X8_step m_w m_h m_c m_s m_un m_hi m_hr m_hp m_n m_l m_b m_hs m_ho m_ac m_ap m_pa = r2) : r1.1 = r2.1 ∧ Rel r1.2.1 t_n t_r t_w s_w s_h s_c s_p s_s r1.2.2.1 r1.2.2.2.1 r1.2.2.2.2.1 r1.2.2.2.2.2.1 r1.2.2.2.2.2.2.1 l_z q_z t_t r1.2.2.2.2.2.2.2.1 r1.2.2.2.2.2.2.2.2.1 b_n r1.2.2.2.2.2.2.2.2.2.1 l_l l_b l_n q_l q_b q_n t_le s_cs s_ps s_ha s_en r1.2.2.2.2.2.2.2.2.2.2.1 ik s_ro s_me s_be s_se s_co r1.2.2.2.2.2.2.2.2.2.2.2.1 r1.2.2.2.2.2.2.2.2.2.2.2.2.1 r1.2.2.2.2.2.2.2.2.2.2.2.2.2 il ib im l_a q_a m_w m_h m_c m_s m_le r2.2.1 m_he m_ro m_wi r2.2.2.1 r2.2.2.2.1 r2.2.2.2.2.1 m_rn m_rw m_rh m_n r2.2.2.2.2.2.1 r2.2.2.2.2.2.2.1 m_to r2.2.2.2.2.2.2.2.1 m_ho m_tx m_ik m_wt m_ac m_ap r2.2.2.2.2.2.2.2.2 m_im m_ri := by
  have hmG := R_mG h
  obtain ⟨a, b, hg, hT, hC, hM, hB, hP, hI, hL, hR⟩ := h
  have H := hint_eq (rp := r_p) (hi := m_hi) (hr := m_hr) (hq := m_hp) (hs := m_hs) hg hC hM hB
  have hn := gOK_lt hg
  rw [f_X7_step, bd] at h1
  rw [f_X8_step, bd] at h2
  obtain ⟨H1, H2, H3, H4⟩ := H
  have hd := hints_hI (u := f_X8_hints m_w m_h m_c m_s m_hi m_hr m_hp m_n m_l m_b m_hs m_ho m_ac m_ap) rfl hmG
  generalize f_X3_seek s_c s_p s_s r_p b_l b_b b_n s_ha s_en s_ro s_me s_be = S at h1 H1 H2 H3 H4
  generalize f_X8_hints m_w m_h m_c m_s m_hi m_hr m_hp m_n m_l m_b m_hs m_ho m_ac m_ap = M at h2 H1 H2 H3 hd
  rw [← H1, ← H2] at h2 hd
  by_cases k0 : S.1 = 0
  · rw [if_pos k0] at h1
    rw [if_pos k0, if_pos k0] at h2
    subst h1; subst h2
    exact ⟨rfl, a, b, hg, hT, hC, hM, hB, hP, hI, hL, hR⟩
  · rw [if_neg k0] at h1 h2
    by_cases k3 : S.1 = 3
    · rw [if_pos k3] at h1
      rw [if_pos k3, if_neg k0] at h2
      subst h1; subst h2
      exact ⟨rfl, a, b, hg, hT, hC, hM, hB, hP, hI, hL, hR⟩
    · rw [if_neg k3] at h1 h2
      have k12 := UK_3 H4 k0 k3
      obtain ⟨g1, g2⟩ := past_sim (pk := pk) hP hB
      obtain ⟨d0, d1⟩ := hd k12
      rw [← hB.1, ← hB.2.1] at d1
      obtain ⟨f1, ⟨f2, f3⟩, f4, f5⟩ := follow_sim hB.2.2.2 k12 d1 (UK_12 H4 k12)
      simp only [bd] at h1 h2
      have e2 : r2 = (f_X8_ones S.2.2.2, (f_X8_minds m_un m_n m_l m_b m_pa).1, S.1, M.2.1, M.2.2.1, (f_X8_sets S.2.2.2 (if S.1 = 1 then 2 else 1) m_l m_b).1, (f_X8_sets S.2.2.2 (if S.1 = 1 then 2 else 1) m_l m_b).2, S.2.2.2, (f_X8_minds m_un m_n m_l m_b m_pa).2) := by
        rw [← h2]
        by_cases z : S.1 = 1
        · rw [if_pos z, if_pos z]
        · rw [if_neg z, if_neg z]
      subst h1; subst e2
      refine ⟨f1, a, b, hg, hT, hC, hM, ⟨?_, ?_, hB.2.2.1, f4⟩, g2, hI, Or.inl g1, hR⟩
      · show (f_X7_follow S.1 b_l b_b S.2.2.2).2.1 = (f_X8_sets S.2.2.2 (if S.1 = 1 then 2 else 1) m_l m_b).1
        rw [← hB.1, ← hB.2.1]; exact f2
      · show (f_X7_follow S.1 b_l b_b S.2.2.2).2.2 = (f_X8_sets S.2.2.2 (if S.1 = 1 then 2 else 1) m_l m_b).2
        rw [← hB.1, ← hB.2.1]; exact f3
theorem sim_spreads {c_sr t_n t_r t_w s_w s_h s_c s_p s_s p_nx p_sz r_k r_r r_p l_z q_z : Int32} {t_t b_l b_b b_n r_t l_l l_b l_n q_l q_b q_n : Int64} {t_le s_cs s_ps s_ha s_en pk ik : Nat → Int32} {s_ro s_me s_be s_se s_co pl pb pn il ib im l_a q_a : Nat → Int64} {m_w m_h m_c m_s m_le m_un m_he m_ro m_wi m_hi m_hr m_hp m_rn m_rw m_rh : Int32} {m_n m_l m_b m_to m_hs : Int64} {m_ho m_tx m_ik m_wt : Nat → Int32} {m_ac m_ap m_pa m_im m_ri : Nat → Int64} (h : Rel c_sr t_n t_r t_w s_w s_h s_c s_p s_s p_nx p_sz r_k r_r r_p l_z q_z t_t b_l b_b b_n r_t l_l l_b l_n q_l q_b q_n t_le s_cs s_ps s_ha s_en pk ik s_ro s_me s_be s_se s_co pl pb pn il ib im l_a q_a m_w m_h m_c m_s m_le m_un m_he m_ro m_wi m_hi m_hr m_hp m_rn m_rw m_rh m_n m_l m_b m_to m_hs m_ho m_tx m_ik m_wt m_ac m_ap m_pa m_im m_ri) {r1 : Int32 × Int32 × Int32 × Int32 × Int32 × Int32 × Int32 × Int64 × Int64 × Int64 × (Nat → Int32) × (Nat → Int64) × (Nat → Int64) × (Nat → Int64)} {r2 : Int32 × Int32 × Int32 × Int32 × Int32 × Int64 × Int64 × Int64 × (Nat → Int64)} (h1 : f_X7_spreads s_c s_p s_s p_nx p_sz r_k r_r r_p b_l b_b b_n r_t s_ha s_en pk s_ro s_me s_be pl pb pn = r1) (h2 : f_X8_spreads m_w m_h m_c m_s m_un m_hi m_hr m_hp m_n m_l m_b m_hs m_ho m_ac m_ap m_pa = r2) : r1.1 = r2.1 ∧ Rel r1.2.1 t_n t_r t_w s_w s_h s_c s_p s_s r1.2.2.1 r1.2.2.2.1 r1.2.2.2.2.1 r1.2.2.2.2.2.1 r1.2.2.2.2.2.2.1 l_z q_z t_t r1.2.2.2.2.2.2.2.1 r1.2.2.2.2.2.2.2.2.1 b_n r1.2.2.2.2.2.2.2.2.2.1 l_l l_b l_n q_l q_b q_n t_le s_cs s_ps s_ha s_en r1.2.2.2.2.2.2.2.2.2.2.1 ik s_ro s_me s_be s_se s_co r1.2.2.2.2.2.2.2.2.2.2.2.1 r1.2.2.2.2.2.2.2.2.2.2.2.2.1 r1.2.2.2.2.2.2.2.2.2.2.2.2.2 il ib im l_a q_a m_w m_h m_c m_s m_le r2.2.1 m_he m_ro m_wi r2.2.2.1 r2.2.2.2.1 r2.2.2.2.2.1 m_rn m_rw m_rh m_n r2.2.2.2.2.2.1 r2.2.2.2.2.2.2.1 m_to r2.2.2.2.2.2.2.2.1 m_ho m_tx m_ik m_wt m_ac m_ap r2.2.2.2.2.2.2.2.2 m_im m_ri := by
  have hmG := R_mG h
  obtain ⟨a, b, hg, hT, hC, hM, hB, hP, hI, hL, hR⟩ := h
  have hn := gOK_lt hg
  rw [f_X7_spreads, bd] at h1
  rw [f_X8_spreads, bd, bd] at h2
  obtain ⟨g1, g2⟩ := past_sim (pk := pk) hP hB
  have hd := hints_hI (u := f_X8_hints m_w m_h m_c m_s m_hi m_hr m_hp m_n m_l m_b m_hs m_ho m_ac m_ap) rfl hmG
  rw [← hB.1, ← hB.2.1] at h2 hd g2
  generalize hM0 : f_X8_hints m_w m_h m_c m_s m_hi m_hr m_hp m_n b_l b_b m_hs m_ho m_ac m_ap = M at h2 hd
  obtain ⟨x, l2, b2, hB2, ⟨q1, q2, q3, q4, E1⟩, v1, v2, v3, v4, E2⟩ := spr_sim hg hC hM hB.2.2.1 hmG (fun z4 z5 z6 z7 z8 z9 z10 => (z4, (f_X7_beforeChange p_nx p_sz b_l b_b b_n pk pl pb pn).1, (f_X7_beforeChange p_nx p_sz b_l b_b b_n pk pl pb pn).2.1, (f_X7_beforeChange p_nx p_sz b_l b_b b_n pk pl pb pn).2.2.1, z5, z6, z7, z8, z9, z10, (f_X7_beforeChange p_nx p_sz b_l b_b b_n pk pl pb pn).2.2.2.1, (f_X7_beforeChange p_nx p_sz b_l b_b b_n pk pl pb pn).2.2.2.2.1, (f_X7_beforeChange p_nx p_sz b_l b_b b_n pk pl pb pn).2.2.2.2.2.1, (f_X7_beforeChange p_nx p_sz b_l b_b b_n pk pl pb pn).2.2.2.2.2.2)) (fun z11 z12 z13 z14 z15 z16 z17 => (z11, (f_X7_beforeChange p_nx p_sz b_l b_b b_n pk pl pb pn).1, (f_X7_beforeChange p_nx p_sz b_l b_b b_n pk pl pb pn).2.1, (f_X7_beforeChange p_nx p_sz b_l b_b b_n pk pl pb pn).2.2.1, z12, z13, z14, z15, z16, z17, (f_X7_beforeChange p_nx p_sz b_l b_b b_n pk pl pb pn).2.2.2.1, (f_X7_beforeChange p_nx p_sz b_l b_b b_n pk pl pb pn).2.2.2.2.1, (f_X7_beforeChange p_nx p_sz b_l b_b b_n pk pl pb pn).2.2.2.2.2.1, (f_X7_beforeChange p_nx p_sz b_l b_b b_n pk pl pb pn).2.2.2.2.2.2)) (fun z11 z12 z13 z14 z15 z16 z17 => (z11, (f_X8_minds m_un m_n b_l b_b m_pa).1, z12, z13, z14, z15, z16, z17, (f_X8_minds m_un m_n b_l b_b m_pa).2)) (fue 40 (0 : Int32)) (18446744073709551617 - (b_l ||| b_b).toBitVec.toNat) 0 0 r_k r_r r_p b_l b_b r_t M.1 M.2.1 M.2.2.1 M.2.2.2 hB.2.2.2 (by decide) (by omega) (sp_0 hd) ⟨m_hi, m_hr, m_hp, m_hs, hM0⟩
  rw [show nI 0 = 0 from rfl] at E1
  rw [E1] at h1
  rw [E2] at h2
  subst h1; subst h2
  exact ⟨rfl, a, b, hg, hT, hC, hM, ⟨rfl, rfl, hB.2.2.1, hB2⟩, g2, hI, Or.inl g1, hR⟩
theorem sim_undo {c_sr t_n t_r t_w s_w s_h s_c s_p s_s p_nx p_sz r_k r_r r_p l_z q_z : Int32} {t_t b_l b_b b_n r_t l_l l_b l_n q_l q_b q_n : Int64} {t_le s_cs s_ps s_ha s_en pk ik : Nat → Int32} {s_ro s_me s_be s_se s_co pl pb pn il ib im l_a q_a : Nat → Int64} {m_w m_h m_c m_s m_le m_un m_he m_ro m_wi m_hi m_hr m_hp m_rn m_rw m_rh : Int32} {m_n m_l m_b m_to m_hs : Int64} {m_ho m_tx m_ik m_wt : Nat → Int32} {m_ac m_ap m_pa m_im m_ri : Nat → Int64} (h : Rel c_sr t_n t_r t_w s_w s_h s_c s_p s_s p_nx p_sz r_k r_r r_p l_z q_z t_t b_l b_b b_n r_t l_l l_b l_n q_l q_b q_n t_le s_cs s_ps s_ha s_en pk ik s_ro s_me s_be s_se s_co pl pb pn il ib im l_a q_a m_w m_h m_c m_s m_le m_un m_he m_ro m_wi m_hi m_hr m_hp m_rn m_rw m_rh m_n m_l m_b m_to m_hs m_ho m_tx m_ik m_wt m_ac m_ap m_pa m_im m_ri) {r1 : Int32 × Int32 × Int32 × Int32 × Int64 × Int64 × Int64} {r2 : Int32 × Int32 × Int64 × Int64 × Int64} (h1 : f_X7_undo c_sr p_nx p_sz b_l b_b b_n pl pb pn = r1) (h2 : f_X8_undo m_un m_n m_l m_b m_pa = r2) : r1.1 = r2.1 ∧ Rel r1.2.1 t_n t_r t_w s_w s_h s_c s_p s_s r1.2.2.1 r1.2.2.2.1 r_k r_r r_p l_z q_z t_t r1.2.2.2.2.1 r1.2.2.2.2.2.1 r1.2.2.2.2.2.2 r_t l_l l_b l_n q_l q_b q_n t_le s_cs s_ps s_ha s_en pk ik s_ro s_me s_be s_se s_co pl pb pn il ib im l_a q_a m_w m_h m_c m_s m_le r2.2.1 m_he m_ro m_wi m_hi m_hr m_hp m_rn m_rw m_rh r2.2.2.1 r2.2.2.2.1 r2.2.2.2.2 m_to m_hs m_ho m_tx m_ik m_wt m_ac m_ap m_pa m_im m_ri := by
  obtain ⟨a, b, hg, hT, hC, hM, hB, hP, hI, hL, hR⟩ := h
  by_cases q : p_sz = 0
  · have q2 : m_un = 0 := by obtain ⟨x, u, _, _, _, e3, e4, _⟩ := hP; rw [e4, ← e3, q]
    rw [f_X7_undo, if_pos q] at h1
    rw [f_X8_undo, if_pos q2] at h2
    subst h1; subst h2
    exact ⟨rfl, a, b, hg, hT, hC, hM, hB, hP, hI, hL, hR⟩
  · have q2 : ¬ m_un = 0 := by obtain ⟨x, u, _, _, _, e3, e4, _⟩ := hP; rw [e4, ← e3]; exact q
    rw [f_X7_undo, if_neg q, bd] at h1
    rw [f_X8_undo, if_neg q2] at h2
    obtain ⟨g1, g2, g3⟩ := undo_sim hP q
    subst h1; subst h2
    exact ⟨g1, a, b, hg, hT, hC, hM, g3, g2, hI, Or.inl rfl, hR⟩
theorem sim_hint {c_sr t_n t_r t_w s_w s_h s_c s_p s_s p_nx p_sz r_k r_r r_p l_z q_z : Int32} {t_t b_l b_b b_n r_t l_l l_b l_n q_l q_b q_n : Int64} {t_le s_cs s_ps s_ha s_en pk ik : Nat → Int32} {s_ro s_me s_be s_se s_co pl pb pn il ib im l_a q_a : Nat → Int64} {m_w m_h m_c m_s m_le m_un m_he m_ro m_wi m_hi m_hr m_hp m_rn m_rw m_rh : Int32} {m_n m_l m_b m_to m_hs : Int64} {m_ho m_tx m_ik m_wt : Nat → Int32} {m_ac m_ap m_pa m_im m_ri : Nat → Int64} (h : Rel c_sr t_n t_r t_w s_w s_h s_c s_p s_s p_nx p_sz r_k r_r r_p l_z q_z t_t b_l b_b b_n r_t l_l l_b l_n q_l q_b q_n t_le s_cs s_ps s_ha s_en pk ik s_ro s_me s_be s_se s_co pl pb pn il ib im l_a q_a m_w m_h m_c m_s m_le m_un m_he m_ro m_wi m_hi m_hr m_hp m_rn m_rw m_rh m_n m_l m_b m_to m_hs m_ho m_tx m_ik m_wt m_ac m_ap m_pa m_im m_ri) (p1 : Int32) {r1 : Int32 × Int32 × Int32 × Int32 × Int64} {r2 : Int32 × Int32 × Int32 × Int32 × Int64} (h1 : f_X7_hint p1 s_c s_p s_s r_k r_r r_p b_l b_b b_n r_t s_ha s_en s_ro s_me s_be = r1) (h2 : f_X8_hint p1 m_w m_h m_c m_s m_hi m_hr m_hp m_n m_l m_b m_hs m_ho m_ac m_ap = r2) : r1.1 = r2.1 ∧ Rel c_sr t_n t_r t_w s_w s_h s_c s_p s_s p_nx p_sz r1.2.1 r1.2.2.1 r1.2.2.2.1 l_z q_z t_t b_l b_b b_n r1.2.2.2.2 l_l l_b l_n q_l q_b q_n t_le s_cs s_ps s_ha s_en pk ik s_ro s_me s_be s_se s_co pl pb pn il ib im l_a q_a m_w m_h m_c m_s m_le m_un m_he m_ro m_wi r2.2.1 r2.2.2.1 r2.2.2.2.1 m_rn m_rw m_rh m_n m_l m_b m_to r2.2.2.2.2 m_ho m_tx m_ik m_wt m_ac m_ap m_pa m_im m_ri := by
  obtain ⟨a, b, hg, hT, hC, hM, hB, hP, hI, hL, hR⟩ := h
  have H := hint_eq (rp := r_p) (hi := m_hi) (hr := m_hr) (hq := m_hp) (hs := m_hs) hg hC hM hB
  have hn := gOK_lt hg
  refine ⟨?_, ⟨a, b, hg, hT, hC, hM, hB, hP, hI, hL, hR⟩⟩
  have ei : f_X8_in p1.toInt64 0 3 = if 0 ≤ p1.toInt ∧ p1.toInt ≤ 3 then 1 else 0 := by rw [in_val, Int32.toInt_toInt64]; rfl
  have hq : (¬ p1 < 0 ∧ p1 ≤ 3) ↔ (0 ≤ p1.toInt ∧ p1.toInt ≤ 3) := by rw [Int32.lt_iff_toInt_lt, Int32.le_iff_toInt_le, Int32.toInt_zero, show (3 : Int32).toInt = 3 from rfl]; omega
  rw [f_X7_hint] at h1
  rw [f_X8_hint, ei] at h2
  by_cases hp1 : 0 ≤ p1.toInt ∧ p1.toInt ≤ 3
  · obtain ⟨q1, q2⟩ := hq.mpr hp1
    rw [if_neg q1, if_pos q2, bd] at h1
    rw [if_pos hp1, if_neg (show ¬ (1 : Int32) = 0 by decide), bd] at h2
    obtain ⟨H1, H2, H3, H4⟩ := H
    generalize f_X3_seek s_c s_p s_s r_p b_l b_b b_n s_ha s_en s_ro s_me s_be = S at h1 H1 H2 H3 H4
    generalize f_X8_hints m_w m_h m_c m_s m_hi m_hr m_hp m_n m_l m_b m_hs m_ho m_ac m_ap = M at h2 H1 H2 H3
    subst h1; subst h2
    rw [← H1]
    by_cases z0 : p1 = 0
    · rw [if_pos z0, if_pos z0]
    · rw [if_neg z0, if_neg z0]
      by_cases k0 : S.1 = 0
      · rw [if_pos k0, if_pos k0]
      · rw [if_neg k0, if_neg k0]
        obtain ⟨H5, H6⟩ := H3 k0
        by_cases z1 : p1 = 1
        · rw [if_pos z1, if_pos z1]; exact H5
        · rw [if_neg z1, if_neg z1]
          by_cases z2 : p1 = 2
          · rw [if_pos z2, if_pos z2]; exact H6
          · rw [if_neg z2, if_neg z2]
            by_cases k3 : S.1 = 3
            · rw [if_pos k3, if_pos (tells_0 (by rw [k3]; decide) (by rw [k3]; decide))]
            · rw [if_neg k3, if_neg (tells_1 (UK_3 H4 k0 k3)), H2, bc_cnt, ones_cnt]
  · rw [if_neg hp1, if_pos rfl] at h2
    have e1 : r1 = ((-1 : Int32), r_k, r_r, r_p, r_t) := by
      by_cases q1 : p1 < 0
      · rw [if_pos q1] at h1; exact h1.symm
      · rw [if_neg q1, if_neg (fun q2 => hp1 (hq.mp ⟨q1, q2⟩))] at h1; exact h1.symm
    subst e1; subst h2; rfl
theorem sim_hinted {c_sr t_n t_r t_w s_w s_h s_c s_p s_s p_nx p_sz r_k r_r r_p l_z q_z : Int32} {t_t b_l b_b b_n r_t l_l l_b l_n q_l q_b q_n : Int64} {t_le s_cs s_ps s_ha s_en pk ik : Nat → Int32} {s_ro s_me s_be s_se s_co pl pb pn il ib im l_a q_a : Nat → Int64} {m_w m_h m_c m_s m_le m_un m_he m_ro m_wi m_hi m_hr m_hp m_rn m_rw m_rh : Int32} {m_n m_l m_b m_to m_hs : Int64} {m_ho m_tx m_ik m_wt : Nat → Int32} {m_ac m_ap m_pa m_im m_ri : Nat → Int64} (h : Rel c_sr t_n t_r t_w s_w s_h s_c s_p s_s p_nx p_sz r_k r_r r_p l_z q_z t_t b_l b_b b_n r_t l_l l_b l_n q_l q_b q_n t_le s_cs s_ps s_ha s_en pk ik s_ro s_me s_be s_se s_co pl pb pn il ib im l_a q_a m_w m_h m_c m_s m_le m_un m_he m_ro m_wi m_hi m_hr m_hp m_rn m_rw m_rh m_n m_l m_b m_to m_hs m_ho m_tx m_ik m_wt m_ac m_ap m_pa m_im m_ri) {r1 : Int64 × Int32 × Int32 × Int32 × Int64} {r2 : Int64 × Int32 × Int32 × Int32 × Int64} (h1 : f_X7_hinted s_c s_p s_s r_p b_l b_b b_n s_ha s_en s_ro s_me s_be = r1) (h2 : f_X8_hinted m_w m_h m_c m_s m_hi m_hr m_hp m_n m_l m_b m_hs m_ho m_ac m_ap = r2) : r1.1 = r2.1 ∧ Rel c_sr t_n t_r t_w s_w s_h s_c s_p s_s p_nx p_sz r1.2.1 r1.2.2.1 r1.2.2.2.1 l_z q_z t_t b_l b_b b_n r1.2.2.2.2 l_l l_b l_n q_l q_b q_n t_le s_cs s_ps s_ha s_en pk ik s_ro s_me s_be s_se s_co pl pb pn il ib im l_a q_a m_w m_h m_c m_s m_le m_un m_he m_ro m_wi r2.2.1 r2.2.2.1 r2.2.2.2.1 m_rn m_rw m_rh m_n m_l m_b m_to r2.2.2.2.2 m_ho m_tx m_ik m_wt m_ac m_ap m_pa m_im m_ri := by
  obtain ⟨a, b, hg, hT, hC, hM, hB, hP, hI, hL, hR⟩ := h
  have H := hint_eq (rp := r_p) (hi := m_hi) (hr := m_hr) (hq := m_hp) (hs := m_hs) hg hC hM hB
  rw [f_X7_hinted, bd] at h1
  rw [f_X8_hinted, bd] at h2
  subst h1; subst h2
  refine ⟨?_, ?_⟩
  · obtain ⟨H1, H2, H3, H4⟩ := H
    by_cases q : (f_X3_seek s_c s_p s_s r_p b_l b_b b_n s_ha s_en s_ro s_me s_be).1 = 1 ∨ (f_X3_seek s_c s_p s_s r_p b_l b_b b_n s_ha s_en s_ro s_me s_be).1 = 2
    · rw [if_neg (tells_1 q)]; exact H2
    · rw [if_pos (tells_0 (fun e => q (Or.inl e)) (fun e => q (Or.inr e)))]
      rw [← H2]
      exact (UK_n12 H4 q).symm
  · exact ⟨a, b, hg, hT, hC, hM, hB, hP, hI, hL, hR⟩
theorem sim_many {c_sr t_n t_r t_w s_w s_h s_c s_p s_s p_nx p_sz r_k r_r r_p l_z q_z : Int32} {t_t b_l b_b b_n r_t l_l l_b l_n q_l q_b q_n : Int64} {t_le s_cs s_ps s_ha s_en pk ik : Nat → Int32} {s_ro s_me s_be s_se s_co pl pb pn il ib im l_a q_a : Nat → Int64} {m_w m_h m_c m_s m_le m_un m_he m_ro m_wi m_hi m_hr m_hp m_rn m_rw m_rh : Int32} {m_n m_l m_b m_to m_hs : Int64} {m_ho m_tx m_ik m_wt : Nat → Int32} {m_ac m_ap m_pa m_im m_ri : Nat → Int64} (h : Rel c_sr t_n t_r t_w s_w s_h s_c s_p s_s p_nx p_sz r_k r_r r_p l_z q_z t_t b_l b_b b_n r_t l_l l_b l_n q_l q_b q_n t_le s_cs s_ps s_ha s_en pk ik s_ro s_me s_be s_se s_co pl pb pn il ib im l_a q_a m_w m_h m_c m_s m_le m_un m_he m_ro m_wi m_hi m_hr m_hp m_rn m_rw m_rh m_n m_l m_b m_to m_hs m_ho m_tx m_ik m_wt m_ac m_ap m_pa m_im m_ri) (p1 : Int32) {r1 : Int32 × Int32 × Int32 × Int64 × Int64 × Int64 × (Nat → Int64)} {r2 : Int32 × Int32 × Int32 × Int32 × (Nat → Int64)} (h1 : f_X7_many p1 c_sr s_c l_z b_l b_b b_n l_l l_b l_n s_cs s_ha s_ro s_be s_se s_co l_a = r1) (h2 : f_X8_many p1 m_w m_h m_c m_s m_rn m_rw m_rh m_n m_l m_b m_ho m_ac m_ap m_ri = r2) : r1.1 = r2.1 ∧ Rel r1.2.1 t_n t_r t_w s_w s_h s_c s_p s_s p_nx p_sz r_k r_r r_p r1.2.2.1 q_z t_t b_l b_b b_n r_t r1.2.2.2.1 r1.2.2.2.2.1 r1.2.2.2.2.2.1 q_l q_b q_n t_le s_cs s_ps s_ha s_en pk ik s_ro s_me s_be s_se s_co pl pb pn il ib im r1.2.2.2.2.2.2 q_a m_w m_h m_c m_s m_le m_un m_he m_ro m_wi m_hi m_hr m_hp r2.2.1 r2.2.2.1 r2.2.2.2.1 m_n m_l m_b m_to m_hs m_ho m_tx m_ik m_wt m_ac m_ap m_pa m_im r2.2.2.2.2 := by
  obtain ⟨a, b, hg, hT, hC, hM, hB, hP, hI, hL, hR⟩ := h
  have hn := gOK_lt hg
  have ei : f_X8_in p1.toInt64 1 10000 = if 1 ≤ p1.toInt ∧ p1.toInt ≤ 10000 then 1 else 0 := by rw [in_val, Int32.toInt_toInt64]; rfl
  have hq : (¬ p1 < 1 ∧ p1 ≤ 10000) ↔ (1 ≤ p1.toInt ∧ p1.toInt ≤ 10000) := by rw [Int32.lt_iff_toInt_lt, Int32.le_iff_toInt_le, show (1 : Int32).toInt = 1 from rfl, show (10000 : Int32).toInt = 10000 from rfl]; omega
  by_cases hp : 1 ≤ p1.toInt ∧ p1.toInt ≤ 10000
  · rw [if_pos hp] at ei
    obtain ⟨c1, c2⟩ := hq.mpr hp
    rw [f_X7_many, if_neg c1, if_pos c2, bd] at h1
    rw [f_X8_many, ei, if_neg (show ¬ (1 : Int32) = 0 by decide), bd] at h2
    obtain ⟨L, hL1, hL2⟩ := seek_sim (l_l := l_l) (l_b := l_b) (l_n := l_n) hg hC hB.2.2.2 hL
    obtain ⟨R, hR1, hR2, hR3, _⟩ := lays_sim hg hM hR
    have hLR := list_eq (mn := m_n) (ac := m_ac) hg hR1 hL1 hB.2.2.1 hM.2.2.2.2.2.1
    rw [hB.1, hB.2.1] at hLR
    obtain ⟨M, hM1, rfl⟩ := i32_of (x := p1) (n := 10000) (by omega) (by omega) (by decide)
    obtain ⟨g1, g2⟩ := manyBut_val hg hM hR hR1 (M := M) (by omega) 16 m_n m_l m_b
    rw [← hLR] at g1
    generalize f_X8_manyBut (nI M) 16 m_w m_h m_c m_s m_rn m_rw m_rh m_n m_l m_b m_ho m_ac m_ap m_ri = u at h2 g1 g2
    generalize f_X7_searchLoops c_sr s_c l_z b_l b_b b_n l_l l_b l_n s_cs s_ha s_ro s_be s_se s_co l_a = v at h1 hL2
    subst h1; subst h2
    refine ⟨?_, a, b, hg, hT, hC, hM, hB, hP, hI, Or.inr ⟨L, hL1, hL2⟩, g2⟩
    show minI v.2.1 (nI M) = u.1
    rw [hL2.1, g1, minI_nI (by have := hL2.2.1; omega) (by omega)]
  · rw [if_neg hp] at ei
    rw [f_X8_many, ei, if_pos rfl] at h2
    have e1 : r1 = ((-1 : Int32), c_sr, l_z, l_l, l_b, l_n, l_a) := by
      rw [f_X7_many] at h1
      by_cases q1 : p1 < 1
      · rw [if_pos q1] at h1; exact h1.symm
      · rw [if_neg q1, if_neg (fun q2 => hp (hq.mp ⟨q1, q2⟩))] at h1; exact h1.symm
    subst e1; subst h2
    exact ⟨rfl, a, b, hg, hT, hC, hM, hB, hP, hI, hL, hR⟩
theorem sim_loop {c_sr t_n t_r t_w s_w s_h s_c s_p s_s p_nx p_sz r_k r_r r_p l_z q_z : Int32} {t_t b_l b_b b_n r_t l_l l_b l_n q_l q_b q_n : Int64} {t_le s_cs s_ps s_ha s_en pk ik : Nat → Int32} {s_ro s_me s_be s_se s_co pl pb pn il ib im l_a q_a : Nat → Int64} {m_w m_h m_c m_s m_le m_un m_he m_ro m_wi m_hi m_hr m_hp m_rn m_rw m_rh : Int32} {m_n m_l m_b m_to m_hs : Int64} {m_ho m_tx m_ik m_wt : Nat → Int32} {m_ac m_ap m_pa m_im m_ri : Nat → Int64} (h : Rel c_sr t_n t_r t_w s_w s_h s_c s_p s_s p_nx p_sz r_k r_r r_p l_z q_z t_t b_l b_b b_n r_t l_l l_b l_n q_l q_b q_n t_le s_cs s_ps s_ha s_en pk ik s_ro s_me s_be s_se s_co pl pb pn il ib im l_a q_a m_w m_h m_c m_s m_le m_un m_he m_ro m_wi m_hi m_hr m_hp m_rn m_rw m_rh m_n m_l m_b m_to m_hs m_ho m_tx m_ik m_wt m_ac m_ap m_pa m_im m_ri) (p1 : Int32) {r1 : Int64 × Int32 × Int32 × Int64 × Int64 × Int64 × (Nat → Int64)} {r2 : Int64 × Int32 × Int32 × Int32 × (Nat → Int64)} (h1 : f_X7_loop p1 c_sr s_c l_z b_l b_b b_n l_l l_b l_n s_cs s_ha s_ro s_be s_se s_co l_a = r1) (h2 : f_X8_loop p1 m_w m_h m_c m_s m_rn m_rw m_rh m_n m_l m_b m_ho m_ac m_ap m_ri = r2) : r1.1 = r2.1 ∧ Rel r1.2.1 t_n t_r t_w s_w s_h s_c s_p s_s p_nx p_sz r_k r_r r_p r1.2.2.1 q_z t_t b_l b_b b_n r_t r1.2.2.2.1 r1.2.2.2.2.1 r1.2.2.2.2.2.1 q_l q_b q_n t_le s_cs s_ps s_ha s_en pk ik s_ro s_me s_be s_se s_co pl pb pn il ib im r1.2.2.2.2.2.2 q_a m_w m_h m_c m_s m_le m_un m_he m_ro m_wi m_hi m_hr m_hp r2.2.1 r2.2.2.1 r2.2.2.2.1 m_n m_l m_b m_to m_hs m_ho m_tx m_ik m_wt m_ac m_ap m_pa m_im r2.2.2.2.2 := by
  obtain ⟨a, b, hg, hT, hC, hM, hB, hP, hI, hL, hR⟩ := h
  have hn := gOK_lt hg
  have ei : f_X8_in p1.toInt64 0 9999 = if 0 ≤ p1.toInt ∧ p1.toInt ≤ 9999 then 1 else 0 := by rw [in_val, Int32.toInt_toInt64]; rfl
  have hq : (¬ p1 < 0 ∧ p1 < 10000) ↔ (0 ≤ p1.toInt ∧ p1.toInt ≤ 9999) := by rw [Int32.lt_iff_toInt_lt, Int32.lt_iff_toInt_lt, show (0 : Int32).toInt = 0 from rfl, show (10000 : Int32).toInt = 10000 from rfl]; omega
  by_cases hp : 0 ≤ p1.toInt ∧ p1.toInt ≤ 9999
  · rw [if_pos hp] at ei
    obtain ⟨c1, c2⟩ := hq.mpr hp
    rw [f_X7_loop, if_neg c1, if_pos c2, bd] at h1
    rw [f_X8_loop, ei, if_neg (show ¬ (1 : Int32) = 0 by decide), bd] at h2
    obtain ⟨L, hL1, hL2⟩ := seek_sim (l_l := l_l) (l_b := l_b) (l_n := l_n) hg hC hB.2.2.2 hL
    obtain ⟨R, hR1, hR2, hR3, _⟩ := lays_sim hg hM hR
    have hLR := list_eq (mn := m_n) (ac := m_ac) hg hR1 hL1 hB.2.2.1 hM.2.2.2.2.2.1
    rw [hB.1, hB.2.1] at hLR
    obtain ⟨k, hk, rfl⟩ := i32_of (x := p1) (n := 9999) (by omega) (by omega) (by decide)
    obtain ⟨g1, g2⟩ := loopAt_val (k := k) hg hM hR hR1 (by omega) hLR
    generalize f_X8_loopAt (nI k) m_w m_h m_c m_s m_rn m_rw m_rh m_n m_l m_b m_ho m_ac m_ap m_ri = u at h2 g1 g2
    generalize f_X7_searchLoops c_sr s_c l_z b_l b_b b_n l_l l_b l_n s_cs s_ha s_ro s_be s_se s_co l_a = v at h1 hL2
    rcases g1 with ⟨g3, g4⟩ | ⟨hk2, g3⟩
    · rw [if_pos (by rw [hL2.1]; exact nI_le g3 (by omega))] at h1
      subst h1; subst h2
      exact ⟨g4.symm, a, b, hg, hT, hC, hM, hB, hP, hI, Or.inr ⟨L, hL1, hL2⟩, g2⟩
    · have hl9 := hL2.2.1
      rw [if_neg (by rw [hL2.1]; exact nI_ge (by omega) (by omega))] at h1
      subst h1; subst h2
      refine ⟨?_, a, b, hg, hT, hC, hM, hB, hP, hI, Or.inr ⟨L, hL1, hL2⟩, g2⟩
      show f_X1_ring (nI k) v.2.2.2.2.2 = u.1
      rw [f_X1_ring, atL_val _ (show k < 10000 by have := hL2.2.1; omega) (by decide), hL2.2.2 k hk2, g3]
  · rw [if_neg hp] at ei
    rw [f_X8_loop, ei, if_pos rfl] at h2
    have e1 : r1 = ((-1 : Int64), c_sr, l_z, l_l, l_b, l_n, l_a) := by
      rw [f_X7_loop] at h1
      by_cases q1 : p1 < 0
      · rw [if_pos q1] at h1; exact h1.symm
      · rw [if_neg q1, if_neg (fun q2 => hp (hq.mp ⟨q1, q2⟩))] at h1; exact h1.symm
    subst e1; subst h2
    exact ⟨rfl, a, b, hg, hT, hC, hM, hB, hP, hI, hL, hR⟩
theorem sim_forced {c_sr t_n t_r t_w s_w s_h s_c s_p s_s p_nx p_sz r_k r_r r_p l_z q_z : Int32} {t_t b_l b_b b_n r_t l_l l_b l_n q_l q_b q_n : Int64} {t_le s_cs s_ps s_ha s_en pk ik : Nat → Int32} {s_ro s_me s_be s_se s_co pl pb pn il ib im l_a q_a : Nat → Int64} {m_w m_h m_c m_s m_le m_un m_he m_ro m_wi m_hi m_hr m_hp m_rn m_rw m_rh : Int32} {m_n m_l m_b m_to m_hs : Int64} {m_ho m_tx m_ik m_wt : Nat → Int32} {m_ac m_ap m_pa m_im m_ri : Nat → Int64} (h : Rel c_sr t_n t_r t_w s_w s_h s_c s_p s_s p_nx p_sz r_k r_r r_p l_z q_z t_t b_l b_b b_n r_t l_l l_b l_n q_l q_b q_n t_le s_cs s_ps s_ha s_en pk ik s_ro s_me s_be s_se s_co pl pb pn il ib im l_a q_a m_w m_h m_c m_s m_le m_un m_he m_ro m_wi m_hi m_hr m_hp m_rn m_rw m_rh m_n m_l m_b m_to m_hs m_ho m_tx m_ik m_wt m_ac m_ap m_pa m_im m_ri) (p1 : Int32) {r1 : Int64 × Int32 × Int32 × Int64 × Int64 × Int64 × (Nat → Int64)} {r2 : Int64 × Int32 × Int32 × Int32 × (Nat → Int64)} (h1 : f_X7_forced p1 c_sr s_c s_s l_z b_l b_b b_n l_l l_b l_n s_cs s_ha s_ro s_be s_se s_co l_a = r1) (h2 : f_X8_forced p1 m_w m_h m_c m_s m_rn m_rw m_rh m_n m_l m_b m_ho m_ac m_ap m_ri = r2) : r1.1 = r2.1 ∧ Rel r1.2.1 t_n t_r t_w s_w s_h s_c s_p s_s p_nx p_sz r_k r_r r_p r1.2.2.1 q_z t_t b_l b_b b_n r_t r1.2.2.2.1 r1.2.2.2.2.1 r1.2.2.2.2.2.1 q_l q_b q_n t_le s_cs s_ps s_ha s_en pk ik s_ro s_me s_be s_se s_co pl pb pn il ib im r1.2.2.2.2.2.2 q_a m_w m_h m_c m_s m_le m_un m_he m_ro m_wi m_hi m_hr m_hp r2.2.1 r2.2.2.1 r2.2.2.2.1 m_n m_l m_b m_to m_hs m_ho m_tx m_ik m_wt m_ac m_ap m_pa m_im r2.2.2.2.2 := by
  obtain ⟨a, b, hg, hT, hC, hM, hB, hP, hI, hL, hR⟩ := h
  have hn := gOK_lt hg
  have ei : f_X8_in p1.toInt64 0 1 = if 0 ≤ p1.toInt ∧ p1.toInt ≤ 1 then 1 else 0 := by rw [in_val, Int32.toInt_toInt64]; rfl
  have hq : (¬ p1 < 0 ∧ p1 ≤ 1) ↔ (0 ≤ p1.toInt ∧ p1.toInt ≤ 1) := by rw [Int32.lt_iff_toInt_lt, Int32.le_iff_toInt_le, show (0 : Int32).toInt = 0 from rfl, show (1 : Int32).toInt = 1 from rfl]; omega
  by_cases hp : 0 ≤ p1.toInt ∧ p1.toInt ≤ 1
  · rw [if_pos hp] at ei
    obtain ⟨c1, c2⟩ := hq.mpr hp
    rw [f_X7_forced, if_neg c1, if_pos c2, bd] at h1
    rw [f_X8_forced, ei, if_neg (show ¬ (1 : Int32) = 0 by decide), bd] at h2
    obtain ⟨L, hL1, hL2⟩ := seek_sim (l_l := l_l) (l_b := l_b) (l_n := l_n) hg hC hB.2.2.2 hL
    obtain ⟨R, hR1, hR2, hR3, _⟩ := lays_sim hg hM hR
    have hLR := list_eq (mn := m_n) (ac := m_ac) hg hR1 hL1 hB.2.2.1 hM.2.2.2.2.2.1
    rw [hB.1, hB.2.1] at hLR
    generalize f_X7_searchLoops c_sr s_c l_z b_l b_b b_n l_l l_b l_n s_cs s_ha s_ro s_be s_se s_co l_a = v at h1 hL2
    generalize f_X8_laysRings m_w m_h m_c m_s m_rn m_rw m_rh m_ho m_ap m_ri = u at h2 hR2 hR3
    obtain ⟨u1, u2, u3, u4⟩ := u
    obtain ⟨e1, e2, e3⟩ := hR2
    simp only at e1 e2 e3 hR3 h2
    subst e1
    have hl9 := hL2.2.1
    have hf := F_fo (R := R) (ri := u4) e2 e3 (ab := a * b) (mn := m_n) (l := m_l) (bb := m_b) (ac := m_ac) (fun z2 z3 z4 => (if z4 = 0 then ((-9 : Int64), nI R.length, u2, u3, u4) else (if p1 = 0 then (z2, nI R.length, u2, u3, u4) else (z3, nI R.length, u2, u3, u4)))) (R.length + 1) 0 0 (f_X8_all m_s) (f_X8_all m_s) (by omega) (by omega)
    rw [show nI 0 = (0 : Int32) from rfl, List.drop_zero, ← hLR, Nat.zero_add] at hf
    rw [hM.2.2.1, fuN (by omega), hf] at h2
    have hss : f_X4_allSides s_s = f_X8_all m_s := by rw [hC.2.2.2.2.1, hM.2.2.2.1, all_eq]
    rw [hL2.1] at h1
    by_cases q0 : nI L.length = 0
    · rw [if_pos q0] at h1 h2
      subst h1; subst h2
      exact ⟨rfl, a, b, hg, hT, hC, hM, hB, hP, hI, Or.inr ⟨L, hL1, rfl, hL2.2⟩, hR3⟩
    · rw [if_neg q0] at h1 h2
      by_cases p0 : p1 = 0
      · rw [if_pos p0] at h1 h2
        have hi := F_ia hL2.2.1 hL2.2.2 (fun z => z) (L.length + 1) 0 (f_X4_allSides s_s) (by omega) (by omega)
        rw [show nI 0 = (0 : Int32) from rfl, List.drop_zero] at hi
        rw [f_X1_inAll, fuN (by omega), hi, hss] at h1
        subst h1; subst h2
        exact ⟨rfl, a, b, hg, hT, hC, hM, hB, hP, hI, Or.inr ⟨L, hL1, rfl, hL2.2⟩, hR3⟩
      · rw [if_neg p0] at h1 h2
        have hi := F_in hL2.2.1 hL2.2.2 (fun z1 => (f_X4_allSides s_s) &&& (z1 ^^^ (-1))) (L.length + 1) 0 0 (by omega) (by omega)
        rw [show nI 0 = (0 : Int32) from rfl, List.drop_zero] at hi
        rw [f_X1_inNone, fuN (by omega), hi, or_and, and_n0, hss] at h1
        subst h1; subst h2
        exact ⟨rfl, a, b, hg, hT, hC, hM, hB, hP, hI, Or.inr ⟨L, hL1, rfl, hL2.2⟩, hR3⟩
  · rw [if_neg hp] at ei
    rw [f_X8_forced, ei, if_pos rfl] at h2
    have e1 : r1 = ((-1 : Int64), c_sr, l_z, l_l, l_b, l_n, l_a) := by
      rw [f_X7_forced] at h1
      by_cases q1 : p1 < 0
      · rw [if_pos q1] at h1; exact h1.symm
      · rw [if_neg q1, if_neg (fun q2 => hp (hq.mp ⟨q1, q2⟩))] at h1; exact h1.symm
    subst e1; subst h2
    exact ⟨rfl, a, b, hg, hT, hC, hM, hB, hP, hI, hL, hR⟩
theorem sim_inside {c_sr t_n t_r t_w s_w s_h s_c s_p s_s p_nx p_sz r_k r_r r_p l_z q_z : Int32} {t_t b_l b_b b_n r_t l_l l_b l_n q_l q_b q_n : Int64} {t_le s_cs s_ps s_ha s_en pk ik : Nat → Int32} {s_ro s_me s_be s_se s_co pl pb pn il ib im l_a q_a : Nat → Int64} {m_w m_h m_c m_s m_le m_un m_he m_ro m_wi m_hi m_hr m_hp m_rn m_rw m_rh : Int32} {m_n m_l m_b m_to m_hs : Int64} {m_ho m_tx m_ik m_wt : Nat → Int32} {m_ac m_ap m_pa m_im m_ri : Nat → Int64} (h : Rel c_sr t_n t_r t_w s_w s_h s_c s_p s_s p_nx p_sz r_k r_r r_p l_z q_z t_t b_l b_b b_n r_t l_l l_b l_n q_l q_b q_n t_le s_cs s_ps s_ha s_en pk ik s_ro s_me s_be s_se s_co pl pb pn il ib im l_a q_a m_w m_h m_c m_s m_le m_un m_he m_ro m_wi m_hi m_hr m_hp m_rn m_rw m_rh m_n m_l m_b m_to m_hs m_ho m_tx m_ik m_wt m_ac m_ap m_pa m_im m_ri) (p1 : Int32) {r1 : Int32 × Int32 × Int32 × Int64 × Int64 × Int64 × (Nat → Int64)} {r2 : Int32 × Int32 × Int32 × Int32 × (Nat → Int64)} (h1 : f_X7_inside p1 c_sr s_w s_h s_c l_z b_l b_b b_n l_l l_b l_n s_cs s_ha s_ro s_be s_se s_co l_a = r1) (h2 : f_X8_inside p1 m_w m_h m_c m_s m_rn m_rw m_rh m_n m_l m_b m_ho m_ac m_ap m_ri = r2) : r1.1 = r2.1 ∧ Rel r1.2.1 t_n t_r t_w s_w s_h s_c s_p s_s p_nx p_sz r_k r_r r_p r1.2.2.1 q_z t_t b_l b_b b_n r_t r1.2.2.2.1 r1.2.2.2.2.1 r1.2.2.2.2.2.1 q_l q_b q_n t_le s_cs s_ps s_ha s_en pk ik s_ro s_me s_be s_se s_co pl pb pn il ib im r1.2.2.2.2.2.2 q_a m_w m_h m_c m_s m_le m_un m_he m_ro m_wi m_hi m_hr m_hp r2.2.1 r2.2.2.1 r2.2.2.2.1 m_n m_l m_b m_to m_hs m_ho m_tx m_ik m_wt m_ac m_ap m_pa m_im r2.2.2.2.2 := by
  obtain ⟨a, b, hg, hT, hC, hM, hB, hP, hI, hL, hR⟩ := h
  have hn := gOK_lt hg
  have ei : f_X8_in p1.toInt64 0 9999 = if 0 ≤ p1.toInt ∧ p1.toInt ≤ 9999 then 1 else 0 := by rw [in_val, Int32.toInt_toInt64]; rfl
  have hq : (¬ p1 < 0 ∧ p1 < 10000) ↔ (0 ≤ p1.toInt ∧ p1.toInt ≤ 9999) := by rw [Int32.lt_iff_toInt_lt, Int32.lt_iff_toInt_lt, show (0 : Int32).toInt = 0 from rfl, show (10000 : Int32).toInt = 10000 from rfl]; omega
  by_cases hp : 0 ≤ p1.toInt ∧ p1.toInt ≤ 9999
  · rw [if_pos hp] at ei
    obtain ⟨c1, c2⟩ := hq.mpr hp
    rw [f_X7_inside, if_neg c1, if_pos c2, bd] at h1
    rw [f_X8_inside, ei, if_neg (show ¬ (1 : Int32) = 0 by decide), bd] at h2
    obtain ⟨L, hL1, hL2⟩ := seek_sim (l_l := l_l) (l_b := l_b) (l_n := l_n) hg hC hB.2.2.2 hL
    obtain ⟨R, hR1, hR2, hR3, _⟩ := lays_sim hg hM hR
    have hLR := list_eq (mn := m_n) (ac := m_ac) hg hR1 hL1 hB.2.2.1 hM.2.2.2.2.2.1
    rw [hB.1, hB.2.1] at hLR
    obtain ⟨k, hk, rfl⟩ := i32_of (x := p1) (n := 9999) (by omega) (by omega) (by decide)
    obtain ⟨g1, g2⟩ := loopAt_val (k := k) hg hM hR hR1 (by omega) hLR
    generalize f_X8_loopAt (nI k) m_w m_h m_c m_s m_rn m_rw m_rh m_n m_l m_b m_ho m_ac m_ap m_ri = u at h2 g1 g2
    generalize f_X7_searchLoops c_sr s_c l_z b_l b_b b_n l_l l_b l_n s_cs s_ha s_ro s_be s_se s_co l_a = v at h1 hL2
    rcases g1 with ⟨g3, g4⟩ | ⟨hk2, g3⟩
    · rw [if_pos (by rw [hL2.1]; exact nI_le g3 (by omega))] at h1
      rw [g4, if_neg (show ¬ 0 ≤ lg_cmp (-9 : Int64) 0 by decide)] at h2
      subst h1; subst h2
      exact ⟨rfl, a, b, hg, hT, hC, hM, hB, hP, hI, Or.inr ⟨L, hL1, hL2⟩, g2⟩
    · have hl9 := hL2.2.1
      have hrg := ((hL1.2 L[k]).mp (List.getElem_mem hk2)).1
      rw [if_neg (by rw [hL2.1]; exact nI_ge (by omega) (by omega)), hC.1, hC.2.1, cw_val hg, f_X1_ring, atL_val _ (show k < 10000 by omega) (by decide), hL2.2.2 k hk2] at h1
      rw [g3, if_pos (neg_9 (Rg_int hg hrg).1), hM.1, hM.2.1, hM.2.2.1, in_val35 hg] at h2
      subst h1; subst h2
      exact ⟨rfl, a, b, hg, hT, hC, hM, hB, hP, hI, Or.inr ⟨L, hL1, hL2⟩, g2⟩
  · rw [if_neg hp] at ei
    rw [f_X8_inside, ei, if_pos rfl] at h2
    have e1 : r1 = ((-1 : Int32), c_sr, l_z, l_l, l_b, l_n, l_a) := by
      rw [f_X7_inside] at h1
      by_cases q1 : p1 < 0
      · rw [if_pos q1] at h1; exact h1.symm
      · rw [if_neg q1, if_neg (fun q2 => hp (hq.mp ⟨q1, q2⟩))] at h1; exact h1.symm
    subst e1; subst h2
    exact ⟨rfl, a, b, hg, hT, hC, hM, hB, hP, hI, hL, hR⟩
theorem sim_numbersThat {c_sr t_n t_r t_w s_w s_h s_c s_p s_s p_nx p_sz r_k r_r r_p l_z q_z : Int32} {t_t b_l b_b b_n r_t l_l l_b l_n q_l q_b q_n : Int64} {t_le s_cs s_ps s_ha s_en pk ik : Nat → Int32} {s_ro s_me s_be s_se s_co pl pb pn il ib im l_a q_a : Nat → Int64} {m_w m_h m_c m_s m_le m_un m_he m_ro m_wi m_hi m_hr m_hp m_rn m_rw m_rh : Int32} {m_n m_l m_b m_to m_hs : Int64} {m_ho m_tx m_ik m_wt : Nat → Int32} {m_ac m_ap m_pa m_im m_ri : Nat → Int64} (h : Rel c_sr t_n t_r t_w s_w s_h s_c s_p s_s p_nx p_sz r_k r_r r_p l_z q_z t_t b_l b_b b_n r_t l_l l_b l_n q_l q_b q_n t_le s_cs s_ps s_ha s_en pk ik s_ro s_me s_be s_se s_co pl pb pn il ib im l_a q_a m_w m_h m_c m_s m_le m_un m_he m_ro m_wi m_hi m_hr m_hp m_rn m_rw m_rh m_n m_l m_b m_to m_hs m_ho m_tx m_ik m_wt m_ac m_ap m_pa m_im m_ri) (p1 : Int32) {r1 : Int32 × Int32 × Int32 × Int32 × Int64 × Int64 × Int64 × Int64 × Int64 × Int64 × (Nat → Int64) × (Nat → Int64)} {r2 : Int32 × Int32 × Int32 × Int32 × (Nat → Int64)} (h1 : f_X7_numbersThat p1 c_sr s_c l_z q_z b_l b_b b_n l_l l_b l_n q_l q_b q_n s_cs s_ha s_ro s_be s_se s_co l_a q_a = r1) (h2 : f_X8_numbersThat p1 m_w m_h m_c m_s m_rn m_rw m_rh m_n m_l m_b m_ho m_ac m_ap m_ri = r2) : r1.1 = r2.1 ∧ Rel r1.2.1 t_n t_r t_w s_w s_h s_c s_p s_s p_nx p_sz r_k r_r r_p r1.2.2.1 r1.2.2.2.1 t_t b_l b_b b_n r_t r1.2.2.2.2.1 r1.2.2.2.2.2.1 r1.2.2.2.2.2.2.1 r1.2.2.2.2.2.2.2.1 r1.2.2.2.2.2.2.2.2.1 r1.2.2.2.2.2.2.2.2.2.1 t_le s_cs s_ps s_ha s_en pk ik s_ro s_me s_be s_se s_co pl pb pn il ib im r1.2.2.2.2.2.2.2.2.2.2.1 r1.2.2.2.2.2.2.2.2.2.2.2 m_w m_h m_c m_s m_le m_un m_he m_ro m_wi m_hi m_hr m_hp r2.2.1 r2.2.2.1 r2.2.2.2.1 m_n m_l m_b m_to m_hs m_ho m_tx m_ik m_wt m_ac m_ap m_pa m_im r2.2.2.2.2 := by
  obtain ⟨a, b, hg, hT, hC, hM, hB, hP, hI, hL, hR⟩ := h
  have hn := gOK_lt hg
  have ei : f_X8_in p1.toInt64 0 1 = if 0 ≤ p1.toInt ∧ p1.toInt ≤ 1 then 1 else 0 := by rw [in_val, Int32.toInt_toInt64]; rfl
  have hq : (¬ p1 < 0 ∧ p1 ≤ 1) ↔ (0 ≤ p1.toInt ∧ p1.toInt ≤ 1) := by rw [Int32.lt_iff_toInt_lt, Int32.le_iff_toInt_le, show (0 : Int32).toInt = 0 from rfl, show (1 : Int32).toInt = 1 from rfl]; omega
  by_cases hp : 0 ≤ p1.toInt ∧ p1.toInt ≤ 1
  · rw [if_pos hp] at ei
    obtain ⟨c1, c2⟩ := hq.mpr hp
    rw [f_X7_numbersThat, if_neg c1, if_pos c2, bd] at h1
    rw [f_X8_numbersThat, ei, if_neg (show ¬ (1 : Int32) = 0 by decide), bd] at h2
    obtain ⟨L, hL1, hL2⟩ := seek_sim (l_l := l_l) (l_b := l_b) (l_n := l_n) hg hC hB.2.2.2 hL
    obtain ⟨R, hR1, hR2, hR3, _⟩ := lays_sim hg hM hR
    have hLR := list_eq (mn := m_n) (ac := m_ac) hg hR1 hL1 hB.2.2.1 hM.2.2.2.2.2.1
    rw [hB.1, hB.2.1] at hLR
    obtain ⟨g1, g2⟩ := manyBut_val hg hM hR hR1 (M := 2) (by omega) 16 m_n m_l m_b
    rw [← hLR] at g1
    rw [show nI 2 = (2 : Int32) from rfl] at g1 g2
    generalize f_X8_manyBut 2 16 m_w m_h m_c m_s m_rn m_rw m_rh m_n m_l m_b m_ho m_ac m_ap m_ri = u at h2 g1 g2
    generalize f_X7_searchLoops c_sr s_c l_z b_l b_b b_n l_l l_b l_n s_cs s_ha s_ro s_be s_se s_co l_a = v at h1 hL2
    have hl9 := hL2.2.1
    have hy : p1 = 0 ∨ p1 = 1 := by
      obtain ⟨M, hM1, rfl⟩ := i32_of (x := p1) (n := 1) (by omega) (by omega) (by decide)
      rcases (show M = 0 ∨ M = 1 by omega) with rfl | rfl
      · exact Or.inl rfl
      · exact Or.inr rfl
    have ec : s_c = m_c := by rw [hC.2.2.1, hM.2.2.1]
    have stop : ¬ u.1 = 1 - p1 → r2 = ((0 : Int32), u.2.1, u.2.2.1, u.2.2.2.1, u.2.2.2.2) := fun hne => by
      rw [← h2, hM.2.2.1, fuN (by omega), F_X8_numbersThat_25, if_neg (show ¬ nI (a * b) ≤ 0 by rw [show (0 : Int32) = nI 0 from rfl]; exact nI_ge (by omega) (by omega)), if_neg hne]
    have hl0 : (nI L.length = 0) ↔ L.length = 0 := ⟨fun e => (nI_eq (by omega) (by decide)).mp (show nI L.length = nI 0 from e), fun e => by rw [e]; rfl⟩
    have hl1 : (nI L.length = 1) ↔ L.length = 1 := ⟨fun e => (nI_eq (by omega) (by decide)).mp (show nI L.length = nI 1 from e), fun e => by rw [e]; rfl⟩
    have hu0 : (u.1 = 0) ↔ L.length = 0 := by
      rw [g1]
      exact ⟨fun e => by have := (nI_eq (a := min 2 L.length) (b := 0) (by omega) (by decide)).mp e; omega, fun e => by rw [e]; rfl⟩
    have hu1 : (u.1 = 1) ↔ L.length = 1 := by
      rw [g1]
      exact ⟨fun e => by have := (nI_eq (a := min 2 L.length) (b := 1) (by omega) (by decide)).mp e; omega, fun e => by rw [e]; rfl⟩
    rw [hL2.1] at h1
    have run : ∀ (hh : u.1 = 1 - p1), ∃ (z z1 : Int32) (z2 z3 z4 : Int64) (z5 : Nat → Int64) (v1 v2 v3 : Int32) (v4 : Nat → Int64), F_X7_numbersThat_43 p1 s_c b_l b_b b_n s_cs s_ha s_ro s_be s_se s_co (fun z9 z10 z11 z12 z13 z14 => (z9, v.1, nI L.length, z10, v.2.2.1, v.2.2.2.1, v.2.2.2.2.1, z11, z12, z13, v.2.2.2.2.2, z14)) (fu s_c (0 : Int32)) 0 0 q_z q_l q_b q_n q_a = (z, v.1, nI L.length, z1, v.2.2.1, v.2.2.2.1, v.2.2.2.2.1, z2, z3, z4, v.2.2.2.2.2, z5) ∧ r2 = (z, v1, v2, v3, v4) ∧ RRings2 v1 v2 v3 v4 := fun hh => by
      obtain ⟨z, z1, z2, z3, z4, z5, v1, v2, v3, v4, t1, t2, t3⟩ := nt_both hg hC hM hB.2.2.1 hB.2.2.2 hR1 hy hh (fun z9 z10 z11 z12 z13 z14 => (z9, v.1, nI L.length, z10, v.2.2.1, v.2.2.2.1, v.2.2.2.2.1, z11, z12, z13, v.2.2.2.2.2, z14)) (fun z4 z5 z6 z7 z8 => (z4, z5, z6, z7, z8)) (fu s_c (0 : Int32)) 0 0 q_z q_l q_b q_n q_a u.2.1 u.2.2.1 u.2.2.2.1 u.2.2.2.2 (by omega) g2
      rw [hB.1, hB.2.1] at t2
      refine ⟨z, z1, z2, z3, z4, z5, v1, v2, v3, v4, t1, ?_, t3⟩
      rw [← h2, ← t2, ec]
      rfl
    rcases hy with y0 | y0
    · subst y0
      rw [if_pos rfl] at h1
      by_cases q1 : L.length = 1
      · rw [if_pos (hl1.mpr q1)] at h1
        obtain ⟨z, z1, z2, z3, z4, z5, v1, v2, v3, v4, t1, t2, t3⟩ := run (by rw [hu1.mpr q1]; decide)
        rw [t1] at h1
        subst h1; subst t2
        exact ⟨rfl, a, b, hg, hT, hC, hM, hB, hP, hI, Or.inr ⟨L, hL1, rfl, hL2.2⟩, t3⟩
      · rw [if_neg (fun e => q1 (hl1.mp e))] at h1
        have e2 := stop (fun e => q1 (hu1.mp (e.trans (by decide))))
        subst h1; subst e2
        exact ⟨rfl, a, b, hg, hT, hC, hM, hB, hP, hI, Or.inr ⟨L, hL1, rfl, hL2.2⟩, g2⟩
    · subst y0
      rw [if_neg (show ¬ (1 : Int32) = 0 by decide)] at h1
      by_cases q1 : L.length = 0
      · rw [if_pos (hl0.mpr q1)] at h1
        obtain ⟨z, z1, z2, z3, z4, z5, v1, v2, v3, v4, t1, t2, t3⟩ := run (by rw [hu0.mpr q1]; decide)
        rw [t1] at h1
        subst h1; subst t2
        exact ⟨rfl, a, b, hg, hT, hC, hM, hB, hP, hI, Or.inr ⟨L, hL1, rfl, hL2.2⟩, t3⟩
      · rw [if_neg (fun e => q1 (hl0.mp e))] at h1
        have e2 := stop (fun e => q1 (hu0.mp (e.trans (by decide))))
        subst h1; subst e2
        exact ⟨rfl, a, b, hg, hT, hC, hM, hB, hP, hI, Or.inr ⟨L, hL1, rfl, hL2.2⟩, g2⟩
  · rw [if_neg hp] at ei
    rw [f_X8_numbersThat, ei, if_pos rfl] at h2
    have e1 : r1 = ((-1 : Int32), c_sr, l_z, q_z, l_l, l_b, l_n, q_l, q_b, q_n, l_a, q_a) := by
      rw [f_X7_numbersThat] at h1
      by_cases q1 : p1 < 0
      · rw [if_pos q1] at h1; exact h1.symm
      · rw [if_neg q1, if_neg (fun q2 => hp (hq.mp ⟨q1, q2⟩))] at h1; exact h1.symm
    subst e1; subst h2
    exact ⟨rfl, a, b, hg, hT, hC, hM, hB, hP, hI, hL, hR⟩
theorem sim_tryNext {c_sr t_n t_r t_w s_w s_h s_c s_p s_s p_nx p_sz r_k r_r r_p l_z q_z : Int32} {t_t b_l b_b b_n r_t l_l l_b l_n q_l q_b q_n : Int64} {t_le s_cs s_ps s_ha s_en pk ik : Nat → Int32} {s_ro s_me s_be s_se s_co pl pb pn il ib im l_a q_a : Nat → Int64} {m_w m_h m_c m_s m_le m_un m_he m_ro m_wi m_hi m_hr m_hp m_rn m_rw m_rh : Int32} {m_n m_l m_b m_to m_hs : Int64} {m_ho m_tx m_ik m_wt : Nat → Int32} {m_ac m_ap m_pa m_im m_ri : Nat → Int64} (h : Rel c_sr t_n t_r t_w s_w s_h s_c s_p s_s p_nx p_sz r_k r_r r_p l_z q_z t_t b_l b_b b_n r_t l_l l_b l_n q_l q_b q_n t_le s_cs s_ps s_ha s_en pk ik s_ro s_me s_be s_se s_co pl pb pn il ib im l_a q_a m_w m_h m_c m_s m_le m_un m_he m_ro m_wi m_hi m_hr m_hp m_rn m_rw m_rh m_n m_l m_b m_to m_hs m_ho m_tx m_ik m_wt m_ac m_ap m_pa m_im m_ri) {r1 : Int32 × Int32 × Int32 × Int64 × Int64 × Int64 × (Nat → Int64)} {r2 : Int32 × Int32 × Int32 × Int32 × (Nat → Int32) × (Nat → Int64)} (h1 : f_X7_tryNext c_sr s_c s_s l_z b_l b_b b_n l_l l_b l_n s_cs s_ha s_ro s_be s_se s_co l_a = r1) (h2 : f_X8_tryNext m_w m_h m_c m_s m_rn m_rw m_rh m_n m_l m_b m_ho m_wt m_ac m_ap m_ri = r2) : r1.1 = r2.1 ∧ Rel r1.2.1 t_n t_r t_w s_w s_h s_c s_p s_s p_nx p_sz r_k r_r r_p r1.2.2.1 q_z t_t b_l b_b b_n r_t r1.2.2.2.1 r1.2.2.2.2.1 r1.2.2.2.2.2.1 q_l q_b q_n t_le s_cs s_ps s_ha s_en pk ik s_ro s_me s_be s_se s_co pl pb pn il ib im r1.2.2.2.2.2.2 q_a m_w m_h m_c m_s m_le m_un m_he m_ro m_wi m_hi m_hr m_hp r2.2.1 r2.2.2.1 r2.2.2.2.1 m_n m_l m_b m_to m_hs m_ho m_tx m_ik r2.2.2.2.2.1 m_ac m_ap m_pa m_im r2.2.2.2.2.2 := by
  obtain ⟨a, b, hg, hT, hC, hM, hB, hP, hI, hL, hR⟩ := h
  have hn := gOK_lt hg
  rw [f_X7_tryNext, bd] at h1
  rw [f_X8_tryNext, bd] at h2
  obtain ⟨L, hL1, hL2⟩ := seek_sim (l_l := l_l) (l_b := l_b) (l_n := l_n) hg hC hB.2.2.2 hL
  obtain ⟨R, hR1, hR2, hR3, _⟩ := lays_sim hg hM hR
  have hLR := list_eq (mn := m_n) (ac := m_ac) hg hR1 hL1 hB.2.2.1 hM.2.2.2.2.2.1
  rw [hB.1, hB.2.1] at hLR
  generalize f_X7_searchLoops c_sr s_c l_z b_l b_b b_n l_l l_b l_n s_cs s_ha s_ro s_be s_se s_co l_a = v at h1 hL2
  generalize f_X8_laysRings m_w m_h m_c m_s m_rn m_rw m_rh m_ho m_ap m_ri = u at h2 hR2 hR3
  obtain ⟨u1, u2, u3, u4⟩ := u
  obtain ⟨e1, e2, e3⟩ := hR2
  simp only at e1 e2 e3 hR3 h2
  subst e1
  have hl9 := hL2.2.1
  have hv := fun s (hs : s < sdN a b) => hm_val hL2 (show s < 64 by omega)
  rw [hL2.1] at h1 hv
  rw [hC.2.2.2.2.1] at h1
  rw [hM.2.2.1, hM.2.2.2.1, fuN (show sdN a b < 2 ^ 31 by omega), fuN (show R.length < 2 ^ 31 by omega)] at h2
  obtain ⟨w1, f1, _, f2⟩ := F_t8 (S := sdN a b) (by omega) (fun z2 => F_X8_tryNext_31 (nI (a * b)) (nI (sdN a b)) (nI R.length) m_n m_l m_b m_ac u4 (fun z4 z5 => F_X8_tryNext_114 z4 (nI (sdN a b)) m_l m_b z5 (fun z6 => (z6, nI R.length, u2, u3, z5, u4)) (sdN a b + 1) (-9) 0 0) (R.length + 1) 0 0 z2) (sdN a b + 1) 0 m_wt (by omega) (by omega)
  obtain ⟨w2, f3, f4⟩ := F_t31 (S := sdN a b) (by omega) e2 e3 (ab := a * b) (mn := m_n) (l := m_l) (bb := m_b) (ac := m_ac) (fun z4 z5 => F_X8_tryNext_114 z4 (nI (sdN a b)) m_l m_b z5 (fun z6 => (z6, nI R.length, u2, u3, z5, u4)) (sdN a b + 1) (-9) 0 0) (R.length + 1) 0 0 w1 (fun _ => 0) (by omega) (by omega) (fun s hs => f2 s (by omega) hs)
  rw [List.drop_zero, ← hLR] at f3 f4
  simp only [Nat.zero_add] at f3 f4
  have hc : ∀ s, s < sdN a b → L.countP (fun y => bt y s) ≤ L.length := fun s _ => List.countP_le_length
  obtain ⟨z, t1, t2⟩ := tn_both (S := sdN a b) (n := L.length) (l := m_l) (b := m_b) (by omega) hl9 hc hv f4 (fun z3 => (z3, v.1, nI L.length, v.2.2.1, v.2.2.2.1, v.2.2.2.2.1, v.2.2.2.2.2)) (fun z6 => (z6, nI R.length, u2, u3, w2, u4)) (sdN a b + 1) 0 0 (-9) (by omega) (by omega)
  rw [show nI 0 = (0 : Int32) from rfl] at f1 f3 t1 t2
  rw [f1, f3, t2] at h2
  rw [hB.1, hB.2.1, fuN (by omega), t1] at h1
  subst h1; subst h2
  exact ⟨rfl, a, b, hg, hT, hC, hM, hB, hP, hI, Or.inr ⟨L, hL1, rfl, hL2.2⟩, hR3⟩
theorem sim_keep {c_sr t_n t_r t_w s_w s_h s_c s_p s_s p_nx p_sz r_k r_r r_p l_z q_z : Int32} {t_t b_l b_b b_n r_t l_l l_b l_n q_l q_b q_n : Int64} {t_le s_cs s_ps s_ha s_en pk ik : Nat → Int32} {s_ro s_me s_be s_se s_co pl pb pn il ib im l_a q_a : Nat → Int64} {m_w m_h m_c m_s m_le m_un m_he m_ro m_wi m_hi m_hr m_hp m_rn m_rw m_rh : Int32} {m_n m_l m_b m_to m_hs : Int64} {m_ho m_tx m_ik m_wt : Nat → Int32} {m_ac m_ap m_pa m_im m_ri : Nat → Int64} (h : Rel c_sr t_n t_r t_w s_w s_h s_c s_p s_s p_nx p_sz r_k r_r r_p l_z q_z t_t b_l b_b b_n r_t l_l l_b l_n q_l q_b q_n t_le s_cs s_ps s_ha s_en pk ik s_ro s_me s_be s_se s_co pl pb pn il ib im l_a q_a m_w m_h m_c m_s m_le m_un m_he m_ro m_wi m_hi m_hr m_hp m_rn m_rw m_rh m_n m_l m_b m_to m_hs m_ho m_tx m_ik m_wt m_ac m_ap m_pa m_im m_ri) (p1 : Int32) {r1 : Int32 × (Nat → Int32) × (Nat → Int64) × (Nat → Int64) × (Nat → Int64)} {r2 : Int32 × (Nat → Int32) × (Nat → Int64)} (h1 : f_X7_keep p1 s_s b_l b_b b_n ik il ib im = r1) (h2 : f_X8_keep p1 m_s m_n m_l m_b m_ik m_im = r2) : r1.1 = r2.1 ∧ Rel c_sr t_n t_r t_w s_w s_h s_c s_p s_s p_nx p_sz r_k r_r r_p l_z q_z t_t b_l b_b b_n r_t l_l l_b l_n q_l q_b q_n t_le s_cs s_ps s_ha s_en pk r1.2.1 s_ro s_me s_be s_se s_co pl pb pn r1.2.2.1 r1.2.2.2.1 r1.2.2.2.2 l_a q_a m_w m_h m_c m_s m_le m_un m_he m_ro m_wi m_hi m_hr m_hp m_rn m_rw m_rh m_n m_l m_b m_to m_hs m_ho m_tx r2.2.1 m_wt m_ac m_ap m_pa r2.2.2 m_ri := by
  obtain ⟨a, b, hg, hT, hC, hM, hB, hP, hI, hL, hR⟩ := h
  have hn := gOK_lt hg
  have ei : f_X8_in p1.toInt64 0 1 = if 0 ≤ p1.toInt ∧ p1.toInt ≤ 1 then 1 else 0 := by rw [in_val, Int32.toInt_toInt64]; rfl
  by_cases hp : 0 ≤ p1.toInt ∧ p1.toInt ≤ 1
  · rw [if_pos hp] at ei
    have q1 : ¬ p1 < 0 := by rw [Int32.lt_iff_toInt_lt, Int32.toInt_zero]; omega
    have q2 : p1 < 2 := by rw [Int32.lt_iff_toInt_lt, show (2 : Int32).toInt = 2 from rfl]; omega
    obtain ⟨k, hk, rfl⟩ := i32_of (x := p1) (n := 1) hp.1 hp.2 (by decide)
    have n3k := n3 (u := k) (by omega)
    rw [f_X7_keep, if_neg q1, if_pos q2, bd, f_X5_store_b, putI_val _ _ (show k < 2 by omega) (by decide), putL_val _ _ (show k < 2 by omega) (by decide), putL_val _ _ (show k < 2 by omega) (by decide), putL_val _ _ (show k < 2 by omega) (by decide)] at h1
    rw [f_X8_keep, ei, if_neg (by decide), n3k.1, n3k.2.1, n3k.2.2, nI_clamp (by omega), show vp_nar .boolean 1 = 1 from rfl] at h2
    subst h1; subst h2
    refine ⟨?_, a, b, hg, hT, hC, hM, hB, hP, ?_, hL, hR⟩
    · show f_X7_openSides s_s b_l b_b = f_X8_ones (f_X8_open m_s m_l m_b)
      rw [hC.2.2.2.2.1, hM.2.2.2.1, ← hB.1, ← hB.2.1]
      exact open_cnt (by omega) hB.2.2.2
    · intro i hi
      show (upd ik k 1 i = 1 ↔ ¬ upd m_ik k 1 i = 0) ∧ (upd ik k 1 i = 1 → RBoard (sdN a b) (vp_updL il k b_l i) (vp_updL ib k b_b i) (vp_updL im k b_n i) (vp_updL (vp_updL (vp_updL m_im (3 * k) m_n) (3 * k + 1) m_l) (3 * k + 2) m_b (3 * i + 1)) (vp_updL (vp_updL (vp_updL m_im (3 * k) m_n) (3 * k + 1) m_l) (3 * k + 2) m_b (3 * i + 2)) (vp_updL (vp_updL (vp_updL m_im (3 * k) m_n) (3 * k + 1) m_l) (3 * k + 2) m_b (3 * i)))
      rw [upd3, upd3, upd3]
      by_cases e : i = k
      · subst e
        rw [pk_us, pk_us, pk_uLs, pk_uLs, pk_uLs, if_neg (by omega), if_pos rfl, if_neg (by omega), if_neg (by omega), if_pos rfl, if_pos rfl]
        exact ⟨⟨fun _ => by decide, fun _ => rfl⟩, fun _ => hB⟩
      · rw [pk_un e, pk_un e, pk_uLn e, pk_uLn e, pk_uLn e, if_neg (by omega), if_neg (by omega), if_neg (by omega), if_neg (by omega), if_neg (by omega), if_neg (by omega), if_neg (by omega), if_neg (by omega), if_neg (by omega)]
        exact hI i hi
  · rw [if_neg hp] at ei
    rw [f_X8_keep, ei, if_pos rfl] at h2
    have e1 : r1 = ((-1 : Int32), ik, il, ib, im) := by
      rw [f_X7_keep] at h1
      by_cases q1 : p1 < 0
      · rw [if_pos q1] at h1; exact h1.symm
      · rw [if_neg q1, if_neg] at h1
        · exact h1.symm
        · rw [Int32.lt_iff_toInt_lt, Int32.toInt_zero] at q1
          rw [Int32.lt_iff_toInt_lt, show (2 : Int32).toInt = 2 from rfl]; omega
    subst e1; subst h2
    exact ⟨rfl, a, b, hg, hT, hC, hM, hB, hP, hI, hL, hR⟩
theorem sim_back {c_sr t_n t_r t_w s_w s_h s_c s_p s_s p_nx p_sz r_k r_r r_p l_z q_z : Int32} {t_t b_l b_b b_n r_t l_l l_b l_n q_l q_b q_n : Int64} {t_le s_cs s_ps s_ha s_en pk ik : Nat → Int32} {s_ro s_me s_be s_se s_co pl pb pn il ib im l_a q_a : Nat → Int64} {m_w m_h m_c m_s m_le m_un m_he m_ro m_wi m_hi m_hr m_hp m_rn m_rw m_rh : Int32} {m_n m_l m_b m_to m_hs : Int64} {m_ho m_tx m_ik m_wt : Nat → Int32} {m_ac m_ap m_pa m_im m_ri : Nat → Int64} (h : Rel c_sr t_n t_r t_w s_w s_h s_c s_p s_s p_nx p_sz r_k r_r r_p l_z q_z t_t b_l b_b b_n r_t l_l l_b l_n q_l q_b q_n t_le s_cs s_ps s_ha s_en pk ik s_ro s_me s_be s_se s_co pl pb pn il ib im l_a q_a m_w m_h m_c m_s m_le m_un m_he m_ro m_wi m_hi m_hr m_hp m_rn m_rw m_rh m_n m_l m_b m_to m_hs m_ho m_tx m_ik m_wt m_ac m_ap m_pa m_im m_ri) (p1 : Int32) {r1 : Int32 × Int32 × Int32 × Int64 × Int64 × Int64} {r2 : Int32 × Int32 × Int64 × Int64 × Int64} (h1 : f_X7_back p1 c_sr s_s p_sz b_l b_b b_n ik il ib im = r1) (h2 : f_X8_back p1 m_s m_un m_n m_l m_b m_ik m_im = r2) : r1.1 = r2.1 ∧ Rel r1.2.1 t_n t_r t_w s_w s_h s_c s_p s_s p_nx r1.2.2.1 r_k r_r r_p l_z q_z t_t r1.2.2.2.1 r1.2.2.2.2.1 r1.2.2.2.2.2 r_t l_l l_b l_n q_l q_b q_n t_le s_cs s_ps s_ha s_en pk ik s_ro s_me s_be s_se s_co pl pb pn il ib im l_a q_a m_w m_h m_c m_s m_le r2.2.1 m_he m_ro m_wi m_hi m_hr m_hp m_rn m_rw m_rh r2.2.2.1 r2.2.2.2.1 r2.2.2.2.2 m_to m_hs m_ho m_tx m_ik m_wt m_ac m_ap m_pa m_im m_ri := by
  obtain ⟨a, b, hg, hT, hC, hM, hB, hP, hI, hL, hR⟩ := h
  have hn := gOK_lt hg
  have ei : f_X8_in p1.toInt64 0 1 = if 0 ≤ p1.toInt ∧ p1.toInt ≤ 1 then 1 else 0 := by rw [in_val, Int32.toInt_toInt64]; rfl
  by_cases hp : 0 ≤ p1.toInt ∧ p1.toInt ≤ 1
  · rw [if_pos hp] at ei
    have q1 : ¬ p1 < 0 := by rw [Int32.lt_iff_toInt_lt, Int32.toInt_zero]; omega
    have q2 : p1 < 2 := by rw [Int32.lt_iff_toInt_lt, show (2 : Int32).toInt = 2 from rfl]; omega
    obtain ⟨k, hk, rfl⟩ := i32_of (x := p1) (n := 1) hp.1 hp.2 (by decide)
    have n3k := n3 (u := k) (by omega)
    obtain ⟨g1, g2⟩ := hI k (by omega)
    rw [f_X7_back, if_neg q1, if_pos q2, f_X5_has_b, atI_val _ (show k < 2 by omega) (by decide)] at h1
    rw [f_X8_back, ei, if_neg (by decide), n3k.1, n3k.2.1, n3k.2.2, nI_clamp (by omega)] at h2
    by_cases q : ik k = 1
    · rw [if_pos q, if_neg (show ¬ (1 : Int32) = 0 by decide)] at h1
      rw [if_neg (g1.mp q)] at h2
      simp only [bd, f_X5_give_b, f_X0_become, f_X2_forget] at h1
      rw [atL_val _ (show k < 2 by omega) (by decide), atL_val _ (show k < 2 by omega) (by decide), atL_val _ (show k < 2 by omega) (by decide)] at h1
      have hB2 := g2 q
      subst h1; subst h2
      refine ⟨?_, a, b, hg, hT, hC, hM, hB2, ?_, hI, Or.inl rfl, hR⟩
      · show f_X7_openSides s_s (il k) (ib k) = f_X8_ones (f_X8_open m_s (m_im (3 * k + 1)) (m_im (3 * k + 2)))
        rw [hC.2.2.2.2.1, hM.2.2.2.1, ← hB2.1, ← hB2.2.1]
        exact open_cnt (by omega) hB2.2.2.2
      · obtain ⟨x, u, hx, hu, e1, e2, e3, hh⟩ := hP
        exact ⟨x, 0, hx, by omega, e1, rfl, rfl, fun i hi => absurd hi (by omega)⟩
    · rw [if_neg q, if_pos rfl] at h1
      have q3 : m_ik k = 0 := by
        by_cases z : m_ik k = 0
        · exact z
        · exact absurd (g1.mpr z) q
      rw [if_pos q3] at h2
      subst h1; subst h2
      exact ⟨rfl, a, b, hg, hT, hC, hM, hB, hP, hI, hL, hR⟩
  · rw [if_neg hp] at ei
    rw [f_X8_back, ei, if_pos rfl] at h2
    have e1 : r1 = ((-1 : Int32), c_sr, p_sz, b_l, b_b, b_n) := by
      rw [f_X7_back] at h1
      by_cases q1 : p1 < 0
      · rw [if_pos q1] at h1; exact h1.symm
      · rw [if_neg q1, if_neg] at h1
        · exact h1.symm
        · rw [Int32.lt_iff_toInt_lt, Int32.toInt_zero] at q1
          rw [Int32.lt_iff_toInt_lt, show (2 : Int32).toInt = 2 from rfl]; omega
    subst e1; subst h2
    exact ⟨rfl, a, b, hg, hT, hC, hM, hB, hP, hI, hL, hR⟩
theorem sim_count {c_sr t_n t_r t_w s_w s_h s_c s_p s_s p_nx p_sz r_k r_r r_p l_z q_z : Int32} {t_t b_l b_b b_n r_t l_l l_b l_n q_l q_b q_n : Int64} {t_le s_cs s_ps s_ha s_en pk ik : Nat → Int32} {s_ro s_me s_be s_se s_co pl pb pn il ib im l_a q_a : Nat → Int64} {m_w m_h m_c m_s m_le m_un m_he m_ro m_wi m_hi m_hr m_hp m_rn m_rw m_rh : Int32} {m_n m_l m_b m_to m_hs : Int64} {m_ho m_tx m_ik m_wt : Nat → Int32} {m_ac m_ap m_pa m_im m_ri : Nat → Int64} (h : Rel c_sr t_n t_r t_w s_w s_h s_c s_p s_s p_nx p_sz r_k r_r r_p l_z q_z t_t b_l b_b b_n r_t l_l l_b l_n q_l q_b q_n t_le s_cs s_ps s_ha s_en pk ik s_ro s_me s_be s_se s_co pl pb pn il ib im l_a q_a m_w m_h m_c m_s m_le m_un m_he m_ro m_wi m_hi m_hr m_hp m_rn m_rw m_rh m_n m_l m_b m_to m_hs m_ho m_tx m_ik m_wt m_ac m_ap m_pa m_im m_ri) (p1 : Int32) {r1 : Int32} {r2 : Int32} (h1 : f_X7_count p1 t_n s_w s_h s_c s_s p_sz b_l b_b b_n = r1) (h2 : f_X8_count p1 m_w m_h m_c m_s m_le m_un m_n m_l m_b = r2) : r1 = r2 ∧ Rel c_sr t_n t_r t_w s_w s_h s_c s_p s_s p_nx p_sz r_k r_r r_p l_z q_z t_t b_l b_b b_n r_t l_l l_b l_n q_l q_b q_n t_le s_cs s_ps s_ha s_en pk ik s_ro s_me s_be s_se s_co pl pb pn il ib im l_a q_a m_w m_h m_c m_s m_le m_un m_he m_ro m_wi m_hi m_hr m_hp m_rn m_rw m_rh m_n m_l m_b m_to m_hs m_ho m_tx m_ik m_wt m_ac m_ap m_pa m_im m_ri := by
  refine ⟨?_, h⟩
  obtain ⟨a, b, hg, hT, hC, hM, hB, hP, hI, hL, hR⟩ := h
  have hn := gOK_lt hg
  rw [← h1, ← h2, f_X7_count, f_X8_count, hC.1, hC.2.1, hC.2.2.2.2.1, hM.1, hM.2.1, hM.2.2.2.1, hB.1, hB.2.1, bc_cnt, bc_cnt, ones_cnt, ones_cnt]
  have e5 : f_X7_cellsWithNumber s_c b_n = f_X8_numbered m_c m_n := by
    rw [hC.2.2.1, hM.2.2.1, f_X7_cellsWithNumber, f_X8_numbered]
    exact numbered_eq hB.2.2.1 (by omega) _ _ 0 0 (by omega)
  obtain ⟨n, _, e1, e2, _⟩ := hT
  obtain ⟨x, u, _, _, _, e3, e4, _⟩ := hP
  rw [e5, e1, e2, e3, e4]
theorem n0_all : ∀ k : Fin 16, fld 3 mN0 k.val ≤ 5 ∧ fld 4 0 k.val = if fld 3 mN0 k.val = 5 then 0 else fld 3 mN0 k.val + 1 := by decide +kernel
theorem rel_0 : Rel 0 0 0 0 cBec.1 cBec.2.1 cBec.2.2.1 cBec.2.2.2.1 cBec.2.2.2.2.1 0 0 0 0 0 0 0 0 0 0 0 0 0 0 0 0 0 0 ((fun _ => 0)) cBec.2.2.2.2.2.1 cBec.2.2.2.2.2.2.1 cBec.2.2.2.2.2.2.2.1 cBec.2.2.2.2.2.2.2.2.1 ((fun _ => 0)) ((fun _ => 0)) cBec.2.2.2.2.2.2.2.2.2.1 cBec.2.2.2.2.2.2.2.2.2.2.1 cBec.2.2.2.2.2.2.2.2.2.2.2.1 cBec.2.2.2.2.2.2.2.2.2.2.2.2.1 cBec.2.2.2.2.2.2.2.2.2.2.2.2.2 ((fun _ => 0)) ((fun _ => 0)) ((fun _ => 0)) ((fun _ => 0)) ((fun _ => 0)) ((fun _ => 0)) ((fun _ => 0)) ((fun _ => 0)) 2 2 mLay.1 mLay.2.1 0 0 0 0 0 0 0 0 0 0 0 mN0 0 0 0 0 mLay.2.2.1 ((fun _ => 0)) ((fun _ => 0)) ((fun _ => 0)) mLay.2.2.2.1 mLay.2.2.2.2 ((fun _ => 0)) ((fun _ => 0)) ((fun _ => 0)) := by
  have hg : gOK 2 2 := ⟨⟨by decide, by decide⟩, by decide, by decide⟩
  refine ⟨2, 2, hg, ⟨0, by omega, rfl, rfl, fun k hk => absurd hk (by omega)⟩, become_val hg rfl, laysGrid_val hg rfl, ⟨rfl, rfl, fun k hk => ?_, by decide, fun k _ => ⟨bt_zero k, bt_zero k⟩⟩, ⟨0, 0, by omega, by omega, rfl, rfl, rfl, fun i hi => absurd hi (by omega)⟩, fun i hi => ⟨⟨fun e => absurd e (show ¬ (0 : Int32) = 1 by decide), fun e => absurd rfl e⟩, fun e => absurd e (show ¬ (0 : Int32) = 1 by decide)⟩, Or.inl rfl, ⟨by decide, by decide⟩, fun x y hg2 e1 e2 => ?_⟩
  · exact n0_all ⟨k, hk⟩
  · obtain ⟨⟨x1, x2⟩, _⟩ := hg2
    have := (nI_eq (a := 0) (b := x) (by omega) (by omega)).mp e1
    omega
