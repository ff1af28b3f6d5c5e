theorem nw_in : ∀ w ∈ nwL, w ∈ lw_tbl := by
  intro w hw
  have h : nwL.all (fun w => decide (w ∈ tables_1)) = true := by decide +kernel
  exact List.mem_append_right _ (by simpa using List.all_eq_true.mp h w hw)
set_option maxHeartbeats 4000000 in
set_option maxRecDepth 100000 in
theorem law_main {p : Program} {l : Launch} {e : Env} {s : State} {m : MethodId} {below : List Frame} {meth : Method} {c : Code} {D : va_G} {cI cL cZ : ClassId} {b L : Nat} {xs : Nat → Int32} (hL : L ≤ 2048) (C0 : lw_At p s m meth c b L xs) (hk : kk D cI cL cZ s) {ad1 ad2 : Nat → Nat} (hA1 : cInj ad1) (hA2 : mInj ad2) (hn1 : ∀ k, k < 30 → s.heap.size ≤ ad1 k) (hn2 : ∀ k, k < 10 → s.heap.size ≤ ad2 k) (hdis : ∀ i j, i < 30 → j < 10 → ad1 i ≠ ad2 j) : ∀ (n j : Nat) (c_sr t_n t_r t_w s_w s_h s_c s_p s_s p_nx p_sz r_k r_r r_p l_z q_z : Int32) (t_t b_l b_b b_n r_t l_l l_b l_n q_l q_b q_n : Int64) (t_le s_cs s_ps s_ha s_en pk ik : Nat → Int32) (s_ro s_me s_be s_se s_co pl pb pn il ib im l_a q_a : Nat → Int64) (m_w m_h m_c m_s m_le m_un m_he m_ro m_wi m_hi m_hr m_hp m_rn m_rw m_rh : Int32) (m_n m_l m_b m_to m_hs : Int64) (m_ho m_tx m_ik m_wt : Nat → Int32) (m_ac m_ap m_pa m_im m_ri : Nat → Int64) (H : Heap) (locs : List Loc) (ls : Array Slot), j ≤ L → L + 1 ≤ j + n → Rel c_sr t_n t_r t_w s_w s_h s_c s_p s_s p_nx p_sz r_k r_r r_p l_z q_z t_t b_l b_b b_n r_t l_l l_b l_n q_l q_b q_n t_le s_cs s_ps s_ha s_en pk ik s_ro s_me s_be s_se s_co pl pb pn il ib im l_a q_a m_w m_h m_c m_s m_le m_un m_he m_ro m_wi m_hi m_hr m_hp m_rn m_rw m_rh m_n m_l m_b m_to m_hs m_ho m_tx m_ik m_wt m_ac m_ap m_pa m_im m_ri → va_P D vwCl (cw ad1 cI cL cZ c_sr t_n t_r t_w s_w s_h s_c s_p s_s p_nx p_sz r_k r_r r_p l_z q_z t_t b_l b_b b_n r_t l_l l_b l_n q_l q_b q_n t_le s_cs s_ps s_ha s_en pk ik s_ro s_me s_be s_se s_co pl pb pn il ib im l_a q_a) H → va_P D vwCl (mw ad2 cI cL cZ m_w m_h m_c m_s m_le m_un m_he m_ro m_wi m_hi m_hr m_hp m_rn m_rw m_rh m_n m_l m_b m_to m_hs m_ho m_tx m_ik m_wt m_ac m_ap m_pa m_im m_ri) H → va_S (fun q : Nat => s.heap.size ≤ q) s.heap H locs → lv_has ls 4 [(0, .ref b), (1, .ref (ad1 0)), (2, .ref (ad2 0)), (3, .int (nI j))] → W p l e room_1 s m #[Value.ref b] below meth c H locs 40 20256 (lw_Z below #[Value.ref b] s) (F0 m 18 ls []) := by
  have C1 := C0
  intro n
  induction n with
  | zero =>
    intro j c_sr t_n t_r t_w s_w s_h s_c s_p s_s p_nx p_sz r_k r_r r_p l_z q_z t_t b_l b_b b_n r_t l_l l_b l_n q_l q_b q_n t_le s_cs s_ps s_ha s_en pk ik s_ro s_me s_be s_se s_co pl pb pn il ib im l_a q_a m_w m_h m_c m_s m_le m_un m_he m_ro m_wi m_hi m_hr m_hp m_rn m_rw m_rh m_n m_l m_b m_to m_hs m_ho m_tx m_ik m_wt m_ac m_ap m_pa m_im m_ri H locs ls h1 h2
    exact absurd h2 (by omega)
  | succ n ih =>
    intro j c_sr t_n t_r t_w s_w s_h s_c s_p s_s p_nx p_sz r_k r_r r_p l_z q_z t_t b_l b_b b_n r_t l_l l_b l_n q_l q_b q_n t_le s_cs s_ps s_ha s_en pk ik s_ro s_me s_be s_se s_co pl pb pn il ib im l_a q_a m_w m_h m_c m_s m_le m_un m_he m_ro m_wi m_hi m_hr m_hp m_rn m_rw m_rh m_n m_l m_b m_to m_hs m_ho m_tx m_ik m_wt m_ac m_ap m_pa m_im m_ri H locs ls hjL hjn hRel hP1 hP2 hS hl
    obtain ⟨hx, hb, hrt, hml, hown, hts0, hX, hbl, hlocks, hgv⟩ := C0
    have hts : ∀ w ∈ W0, w.before #[Value.ref b] s = true := fun w h => hts0 w (w0_tbl h)
    have hown : s.vm.findClass RL = some m.cls := hown
    have hbA : ¬ (fun q : Nat => s.heap.size ≤ q) b := Nat.not_le.mpr hbl
    have hQ1 : ∀ q, cAd ad1 q → s.heap.size ≤ q := fun q ⟨k, hk, e⟩ => by rw [e]; exact hn1 k hk
    have hQ2 : ∀ q, mAd ad2 q → s.heap.size ≤ q := fun q ⟨k, hk, e⟩ => by rw [e]; exact hn2 k hk
    have hO1 : ∀ j, j < 10 → ¬ cAd ad1 (ad2 j) := fun j hj ⟨k, hk, e⟩ => hdis k j hk hj e.symm
    have hO2 : ∀ j, j < 30 → ¬ mAd ad2 (ad1 j) := fun j hj ⟨k, hk, e⟩ => hdis j k hj hk e
    refine lv_iload_n hx hb dL_law_18 rfl (lv_at hl 3 rfl) ?_
    refine lv_aload_n hx hb dL_law_19 rfl (lv_at hl 0 rfl) ?_
    refine va_slen hx hb hX hbl hbA hS dL_law_20 ?_
    refine lv_iconst (v := 4) hx hb dL_law_21 (by decide) ?_
    refine lv_isub hx hb dL_law_22 ?_
    refine lv_icmp_gt (tgt := 621) hx hb dL_law_23 (by decide) (fun c0 => ?_) (fun c0 => ?_)
    · refine lv_iconst (v := 1) hx hb dL_law_621 (by decide) ?_
      refine va_forget (fun q hq => hS.2.2 q hq) ?_
      refine W.widen (k := 600000) (n := 7302250) (Nat.le_of_ble_eq_true rfl) (Nat.le_of_ble_eq_true rfl) ?_
      exact lw_ret hx hb hrt hlocks dL_law_622
    · have hj := lw_head hL hjL c0
      have kk1 : ∀ (c_sr t_n t_r t_w s_w s_h s_c s_p s_s p_nx p_sz r_k r_r r_p l_z q_z : Int32) (t_t b_l b_b b_n r_t l_l l_b l_n q_l q_b q_n : Int64) (t_le s_cs s_ps s_ha s_en pk ik : Nat → Int32) (s_ro s_me s_be s_se s_co pl pb pn il ib im l_a q_a : Nat → Int64) (m_w m_h m_c m_s m_le m_un m_he m_ro m_wi m_hi m_hr m_hp m_rn m_rw m_rh : Int32) (m_n m_l m_b m_to m_hs : Int64) (m_ho m_tx m_ik m_wt : Nat → Int32) (m_ac m_ap m_pa m_im m_ri : Nat → Int64) (H : Heap) (locs : List Loc), Rel c_sr t_n t_r t_w s_w s_h s_c s_p s_s p_nx p_sz r_k r_r r_p l_z q_z t_t b_l b_b b_n r_t l_l l_b l_n q_l q_b q_n t_le s_cs s_ps s_ha s_en pk ik s_ro s_me s_be s_se s_co pl pb pn il ib im l_a q_a m_w m_h m_c m_s m_le m_un m_he m_ro m_wi m_hi m_hr m_hp m_rn m_rw m_rh m_n m_l m_b m_to m_hs m_ho m_tx m_ik m_wt m_ac m_ap m_pa m_im m_ri → va_P D vwCl (cw ad1 cI cL cZ c_sr t_n t_r t_w s_w s_h s_c s_p s_s p_nx p_sz r_k r_r r_p l_z q_z t_t b_l b_b b_n r_t l_l l_b l_n q_l q_b q_n t_le s_cs s_ps s_ha s_en pk ik s_ro s_me s_be s_se s_co pl pb pn il ib im l_a q_a) H → va_P D vwCl (mw ad2 cI cL cZ m_w m_h m_c m_s m_le m_un m_he m_ro m_wi m_hi m_hr m_hp m_rn m_rw m_rh m_n m_l m_b m_to m_hs m_ho m_tx m_ik m_wt m_ac m_ap m_pa m_im m_ri) H → va_S (fun q : Nat => s.heap.size ≤ q) s.heap H locs → W p l e room_1 s m #[Value.ref b] below meth c H locs 40 20256 (lw_Z below #[Value.ref b] s) (F0 m 615 ls []) := by
        intro c_sr t_n t_r t_w s_w s_h s_c s_p s_s p_nx p_sz r_k r_r r_p l_z q_z t_t b_l b_b b_n r_t l_l l_b l_n q_l q_b q_n t_le s_cs s_ps s_ha s_en pk ik s_ro s_me s_be s_se s_co pl pb pn il ib im l_a q_a m_w m_h m_c m_s m_le m_un m_he m_ro m_wi m_hi m_hr m_hp m_rn m_rw m_rh m_n m_l m_b m_to m_hs m_ho m_tx m_ik m_wt m_ac m_ap m_pa m_im m_ri H locs hRel hP1 hP2 hS
        refine lv_iinc (v := nI (j + 4)) (lv' := [(3, .int (nI (j + 4))), (0, .ref b), (1, .ref (ad1 0)), (2, .ref (ad2 0))]) hx hb dL_law_615 hl (k := 3) rfl (nI_add j 4) (by decide) rfl (fun ls hl => ?_)
        refine lv_goto (tgt := 18) hx hb dL_law_618 (by decide) ?_
        exact ih (j + 4) c_sr t_n t_r t_w s_w s_h s_c s_p s_s p_nx p_sz r_k r_r r_p l_z q_z t_t b_l b_b b_n r_t l_l l_b l_n q_l q_b q_n t_le s_cs s_ps s_ha s_en pk ik s_ro s_me s_be s_se s_co pl pb pn il ib im l_a q_a m_w m_h m_c m_s m_le m_un m_he m_ro m_wi m_hi m_hr m_hp m_rn m_rw m_rh m_n m_l m_b m_to m_hs m_ho m_tx m_ik m_wt m_ac m_ap m_pa m_im m_ri _ _ ls (by omega) (by omega) hRel hP1 hP2 hS (lv_sub hl [1, 2, 3, 0] rfl)
      refine lv_aload_n hx hb dL_law_26 rfl (lv_at hl 0 rfl) ?_
      refine lv_iload_n hx hb dL_law_27 rfl (lv_at hl 3 rfl) ?_
      refine va_sld hx hb hX hbl hbA hS (vp_in_nI (by omega) (by omega)) dL_law_28 ?_
      refine lv_bipush (v := 31) hx hb dL_law_29 (by decide) ?_
      refine lv_iand hx hb dL_law_31 ?_
      generalize (xs (nI j).toNatClampNeg &&& 31 : Int32) = x
      by_cases w0 : x = 0
      · refine lv_tableIn (tgt := 136) (off := 104) hx hb dL_law_32 (by rw [w0]; decide) (by rw [w0]; decide) (by rw [w0]; rfl) (by decide) ?_
        exact law_type hL C1 hk hA1 hA2 hn1 hn2 hdis hj c_sr t_n t_r t_w s_w s_h s_c s_p s_s p_nx p_sz r_k r_r r_p l_z q_z t_t b_l b_b b_n r_t l_l l_b l_n q_l q_b q_n t_le s_cs s_ps s_ha s_en pk ik s_ro s_me s_be s_se s_co pl pb pn il ib im l_a q_a m_w m_h m_c m_s m_le m_un m_he m_ro m_wi m_hi m_hr m_hp m_rn m_rw m_rh m_n m_l m_b m_to m_hs m_ho m_tx m_ik m_wt m_ac m_ap m_pa m_im m_ri hRel hP1 hP2 hS hl kk1
      by_cases w1 : x = 1
      · refine lv_tableIn (tgt := 159) (off := 127) hx hb dL_law_32 (by rw [w1]; decide) (by rw [w1]; decide) (by rw [w1]; rfl) (by decide) ?_
        exact law_clear hL C1 hk hA1 hA2 hn1 hn2 hdis hj c_sr t_n t_r t_w s_w s_h s_c s_p s_s p_nx p_sz r_k r_r r_p l_z q_z t_t b_l b_b b_n r_t l_l l_b l_n q_l q_b q_n t_le s_cs s_ps s_ha s_en pk ik s_ro s_me s_be s_se s_co pl pb pn il ib im l_a q_a m_w m_h m_c m_s m_le m_un m_he m_ro m_wi m_hi m_hr m_hp m_rn m_rw m_rh m_n m_l m_b m_to m_hs m_ho m_tx m_ik m_wt m_ac m_ap m_pa m_im m_ri hRel hP1 hP2 hS hl kk1
      by_cases w2 : x = 2
      · refine lv_tableIn (tgt := 172) (off := 140) hx hb dL_law_32 (by rw [w2]; decide) (by rw [w2]; decide) (by rw [w2]; rfl) (by decide) ?_
        exact law_grid hL C1 hk hA1 hA2 hn1 hn2 hdis hj c_sr t_n t_r t_w s_w s_h s_c s_p s_s p_nx p_sz r_k r_r r_p l_z q_z t_t b_l b_b b_n r_t l_l l_b l_n q_l q_b q_n t_le s_cs s_ps s_ha s_en pk ik s_ro s_me s_be s_se s_co pl pb pn il ib im l_a q_a m_w m_h m_c m_s m_le m_un m_he m_ro m_wi m_hi m_hr m_hp m_rn m_rw m_rh m_n m_l m_b m_to m_hs m_ho m_tx m_ik m_wt m_ac m_ap m_pa m_im m_ri hRel hP1 hP2 hS hl kk1
      by_cases w3 : x = 3
      · refine lv_tableIn (tgt := 185) (off := 153) hx hb dL_law_32 (by rw [w3]; decide) (by rw [w3]; decide) (by rw [w3]; rfl) (by decide) ?_
        exact law_number hL C1 hk hA1 hA2 hn1 hn2 hdis hj c_sr t_n t_r t_w s_w s_h s_c s_p s_s p_nx p_sz r_k r_r r_p l_z q_z t_t b_l b_b b_n r_t l_l l_b l_n q_l q_b q_n t_le s_cs s_ps s_ha s_en pk ik s_ro s_me s_be s_se s_co pl pb pn il ib im l_a q_a m_w m_h m_c m_s m_le m_un m_he m_ro m_wi m_hi m_hr m_hp m_rn m_rw m_rh m_n m_l m_b m_to m_hs m_ho m_tx m_ik m_wt m_ac m_ap m_pa m_im m_ri hRel hP1 hP2 hS hl kk1
      by_cases w4 : x = 4
      · refine lv_tableIn (tgt := 208) (off := 176) hx hb dL_law_32 (by rw [w4]; decide) (by rw [w4]; decide) (by rw [w4]; rfl) (by decide) ?_
        exact law_side hL C1 hk hA1 hA2 hn1 hn2 hdis hj c_sr t_n t_r t_w s_w s_h s_c s_p s_s p_nx p_sz r_k r_r r_p l_z q_z t_t b_l b_b b_n r_t l_l l_b l_n q_l q_b q_n t_le s_cs s_ps s_ha s_en pk ik s_ro s_me s_be s_se s_co pl pb pn il ib im l_a q_a m_w m_h m_c m_s m_le m_un m_he m_ro m_wi m_hi m_hr m_hp m_rn m_rw m_rh m_n m_l m_b m_to m_hs m_ho m_tx m_ik m_wt m_ac m_ap m_pa m_im m_ri hRel hP1 hP2 hS hl kk1
      by_cases w5 : x = 5
      · refine lv_tableIn (tgt := 231) (off := 199) hx hb dL_law_32 (by rw [w5]; decide) (by rw [w5]; decide) (by rw [w5]; rfl) (by decide) ?_
        exact law_sideOf hL C1 hk hA1 hA2 hn1 hn2 hdis hj c_sr t_n t_r t_w s_w s_h s_c s_p s_s p_nx p_sz r_k r_r r_p l_z q_z t_t b_l b_b b_n r_t l_l l_b l_n q_l q_b q_n t_le s_cs s_ps s_ha s_en pk ik s_ro s_me s_be s_se s_co pl pb pn il ib im l_a q_a m_w m_h m_c m_s m_le m_un m_he m_ro m_wi m_hi m_hr m_hp m_rn m_rw m_rh m_n m_l m_b m_to m_hs m_ho m_tx m_ik m_wt m_ac m_ap m_pa m_im m_ri hRel hP1 hP2 hS hl kk1
      by_cases w6 : x = 6
      · refine lv_tableIn (tgt := 274) (off := 242) hx hb dL_law_32 (by rw [w6]; decide) (by rw [w6]; decide) (by rw [w6]; rfl) (by decide) ?_
        exact law_marks hL C1 hk hA1 hA2 hn1 hn2 hdis hj c_sr t_n t_r t_w s_w s_h s_c s_p s_s p_nx p_sz r_k r_r r_p l_z q_z t_t b_l b_b b_n r_t l_l l_b l_n q_l q_b q_n t_le s_cs s_ps s_ha s_en pk ik s_ro s_me s_be s_se s_co pl pb pn il ib im l_a q_a m_w m_h m_c m_s m_le m_un m_he m_ro m_wi m_hi m_hr m_hp m_rn m_rw m_rh m_n m_l m_b m_to m_hs m_ho m_tx m_ik m_wt m_ac m_ap m_pa m_im m_ri hRel hP1 hP2 hS hl kk1
      by_cases w7 : x = 7
      · refine lv_tableIn (tgt := 307) (off := 275) hx hb dL_law_32 (by rw [w7]; decide) (by rw [w7]; decide) (by rw [w7]; rfl) (by decide) ?_
        exact law_numbers hL C1 hk hA1 hA2 hn1 hn2 hdis hj c_sr t_n t_r t_w s_w s_h s_c s_p s_s p_nx p_sz r_k r_r r_p l_z q_z t_t b_l b_b b_n r_t l_l l_b l_n q_l q_b q_n t_le s_cs s_ps s_ha s_en pk ik s_ro s_me s_be s_se s_co pl pb pn il ib im l_a q_a m_w m_h m_c m_s m_le m_un m_he m_ro m_wi m_hi m_hr m_hp m_rn m_rw m_rh m_n m_l m_b m_to m_hs m_ho m_tx m_ik m_wt m_ac m_ap m_pa m_im m_ri hRel hP1 hP2 hS hl kk1
      by_cases w8 : x = 8
      · refine lv_tableIn (tgt := 340) (off := 308) hx hb dL_law_32 (by rw [w8]; decide) (by rw [w8]; decide) (by rw [w8]; rfl) (by decide) ?_
        exact law_step hL C1 hk hA1 hA2 hn1 hn2 hdis hj c_sr t_n t_r t_w s_w s_h s_c s_p s_s p_nx p_sz r_k r_r r_p l_z q_z t_t b_l b_b b_n r_t l_l l_b l_n q_l q_b q_n t_le s_cs s_ps s_ha s_en pk ik s_ro s_me s_be s_se s_co pl pb pn il ib im l_a q_a m_w m_h m_c m_s m_le m_un m_he m_ro m_wi m_hi m_hr m_hp m_rn m_rw m_rh m_n m_l m_b m_to m_hs m_ho m_tx m_ik m_wt m_ac m_ap m_pa m_im m_ri hRel hP1 hP2 hS hl kk1
      by_cases w9 : x = 9
      · refine lv_tableIn (tgt := 353) (off := 321) hx hb dL_law_32 (by rw [w9]; decide) (by rw [w9]; decide) (by rw [w9]; rfl) (by decide) ?_
        exact law_spreads hL C1 hk hA1 hA2 hn1 hn2 hdis hj c_sr t_n t_r t_w s_w s_h s_c s_p s_s p_nx p_sz r_k r_r r_p l_z q_z t_t b_l b_b b_n r_t l_l l_b l_n q_l q_b q_n t_le s_cs s_ps s_ha s_en pk ik s_ro s_me s_be s_se s_co pl pb pn il ib im l_a q_a m_w m_h m_c m_s m_le m_un m_he m_ro m_wi m_hi m_hr m_hp m_rn m_rw m_rh m_n m_l m_b m_to m_hs m_ho m_tx m_ik m_wt m_ac m_ap m_pa m_im m_ri hRel hP1 hP2 hS hl kk1
      by_cases w10 : x = 10
      · refine lv_tableIn (tgt := 366) (off := 334) hx hb dL_law_32 (by rw [w10]; decide) (by rw [w10]; decide) (by rw [w10]; rfl) (by decide) ?_
        exact law_undo hL C1 hk hA1 hA2 hn1 hn2 hdis hj c_sr t_n t_r t_w s_w s_h s_c s_p s_s p_nx p_sz r_k r_r r_p l_z q_z t_t b_l b_b b_n r_t l_l l_b l_n q_l q_b q_n t_le s_cs s_ps s_ha s_en pk ik s_ro s_me s_be s_se s_co pl pb pn il ib im l_a q_a m_w m_h m_c m_s m_le m_un m_he m_ro m_wi m_hi m_hr m_hp m_rn m_rw m_rh m_n m_l m_b m_to m_hs m_ho m_tx m_ik m_wt m_ac m_ap m_pa m_im m_ri hRel hP1 hP2 hS hl kk1
      by_cases w11 : x = 11
      · refine lv_tableIn (tgt := 379) (off := 347) hx hb dL_law_32 (by rw [w11]; decide) (by rw [w11]; decide) (by rw [w11]; rfl) (by decide) ?_
        exact law_hint hL C1 hk hA1 hA2 hn1 hn2 hdis hj c_sr t_n t_r t_w s_w s_h s_c s_p s_s p_nx p_sz r_k r_r r_p l_z q_z t_t b_l b_b b_n r_t l_l l_b l_n q_l q_b q_n t_le s_cs s_ps s_ha s_en pk ik s_ro s_me s_be s_se s_co pl pb pn il ib im l_a q_a m_w m_h m_c m_s m_le m_un m_he m_ro m_wi m_hi m_hr m_hp m_rn m_rw m_rh m_n m_l m_b m_to m_hs m_ho m_tx m_ik m_wt m_ac m_ap m_pa m_im m_ri hRel hP1 hP2 hS hl kk1
      by_cases w12 : x = 12
      · refine lv_tableIn (tgt := 402) (off := 370) hx hb dL_law_32 (by rw [w12]; decide) (by rw [w12]; decide) (by rw [w12]; rfl) (by decide) ?_
        exact law_hinted hL C1 hk hA1 hA2 hn1 hn2 hdis hj c_sr t_n t_r t_w s_w s_h s_c s_p s_s p_nx p_sz r_k r_r r_p l_z q_z t_t b_l b_b b_n r_t l_l l_b l_n q_l q_b q_n t_le s_cs s_ps s_ha s_en pk ik s_ro s_me s_be s_se s_co pl pb pn il ib im l_a q_a m_w m_h m_c m_s m_le m_un m_he m_ro m_wi m_hi m_hr m_hp m_rn m_rw m_rh m_n m_l m_b m_to m_hs m_ho m_tx m_ik m_wt m_ac m_ap m_pa m_im m_ri hRel hP1 hP2 hS hl kk1
      by_cases w13 : x = 13
      · refine lv_tableIn (tgt := 416) (off := 384) hx hb dL_law_32 (by rw [w13]; decide) (by rw [w13]; decide) (by rw [w13]; rfl) (by decide) ?_
        exact law_many hL C1 hk hA1 hA2 hn1 hn2 hdis hj c_sr t_n t_r t_w s_w s_h s_c s_p s_s p_nx p_sz r_k r_r r_p l_z q_z t_t b_l b_b b_n r_t l_l l_b l_n q_l q_b q_n t_le s_cs s_ps s_ha s_en pk ik s_ro s_me s_be s_se s_co pl pb pn il ib im l_a q_a m_w m_h m_c m_s m_le m_un m_he m_ro m_wi m_hi m_hr m_hp m_rn m_rw m_rh m_n m_l m_b m_to m_hs m_ho m_tx m_ik m_wt m_ac m_ap m_pa m_im m_ri hRel hP1 hP2 hS hl kk1
      by_cases w14 : x = 14
      · refine lv_tableIn (tgt := 439) (off := 407) hx hb dL_law_32 (by rw [w14]; decide) (by rw [w14]; decide) (by rw [w14]; rfl) (by decide) ?_
        exact law_loop hL C1 hk hA1 hA2 hn1 hn2 hdis hj c_sr t_n t_r t_w s_w s_h s_c s_p s_s p_nx p_sz r_k r_r r_p l_z q_z t_t b_l b_b b_n r_t l_l l_b l_n q_l q_b q_n t_le s_cs s_ps s_ha s_en pk ik s_ro s_me s_be s_se s_co pl pb pn il ib im l_a q_a m_w m_h m_c m_s m_le m_un m_he m_ro m_wi m_hi m_hr m_hp m_rn m_rw m_rh m_n m_l m_b m_to m_hs m_ho m_tx m_ik m_wt m_ac m_ap m_pa m_im m_ri hRel hP1 hP2 hS hl kk1
      by_cases w15 : x = 15
      · refine lv_tableIn (tgt := 463) (off := 431) hx hb dL_law_32 (by rw [w15]; decide) (by rw [w15]; decide) (by rw [w15]; rfl) (by decide) ?_
        exact law_forced hL C1 hk hA1 hA2 hn1 hn2 hdis hj c_sr t_n t_r t_w s_w s_h s_c s_p s_s p_nx p_sz r_k r_r r_p l_z q_z t_t b_l b_b b_n r_t l_l l_b l_n q_l q_b q_n t_le s_cs s_ps s_ha s_en pk ik s_ro s_me s_be s_se s_co pl pb pn il ib im l_a q_a m_w m_h m_c m_s m_le m_un m_he m_ro m_wi m_hi m_hr m_hp m_rn m_rw m_rh m_n m_l m_b m_to m_hs m_ho m_tx m_ik m_wt m_ac m_ap m_pa m_im m_ri hRel hP1 hP2 hS hl kk1
      by_cases w16 : x = 16
      · refine lv_tableIn (tgt := 487) (off := 455) hx hb dL_law_32 (by rw [w16]; decide) (by rw [w16]; decide) (by rw [w16]; rfl) (by decide) ?_
        exact law_inside hL C1 hk hA1 hA2 hn1 hn2 hdis hj c_sr t_n t_r t_w s_w s_h s_c s_p s_s p_nx p_sz r_k r_r r_p l_z q_z t_t b_l b_b b_n r_t l_l l_b l_n q_l q_b q_n t_le s_cs s_ps s_ha s_en pk ik s_ro s_me s_be s_se s_co pl pb pn il ib im l_a q_a m_w m_h m_c m_s m_le m_un m_he m_ro m_wi m_hi m_hr m_hp m_rn m_rw m_rh m_n m_l m_b m_to m_hs m_ho m_tx m_ik m_wt m_ac m_ap m_pa m_im m_ri hRel hP1 hP2 hS hl kk1
      by_cases w17 : x = 17
      · refine lv_tableIn (tgt := 510) (off := 478) hx hb dL_law_32 (by rw [w17]; decide) (by rw [w17]; decide) (by rw [w17]; rfl) (by decide) ?_
        exact law_numbersThat hL C1 hk hA1 hA2 hn1 hn2 hdis hj c_sr t_n t_r t_w s_w s_h s_c s_p s_s p_nx p_sz r_k r_r r_p l_z q_z t_t b_l b_b b_n r_t l_l l_b l_n q_l q_b q_n t_le s_cs s_ps s_ha s_en pk ik s_ro s_me s_be s_se s_co pl pb pn il ib im l_a q_a m_w m_h m_c m_s m_le m_un m_he m_ro m_wi m_hi m_hr m_hp m_rn m_rw m_rh m_n m_l m_b m_to m_hs m_ho m_tx m_ik m_wt m_ac m_ap m_pa m_im m_ri hRel hP1 hP2 hS hl kk1
      by_cases w18 : x = 18
      · refine lv_tableIn (tgt := 533) (off := 501) hx hb dL_law_32 (by rw [w18]; decide) (by rw [w18]; decide) (by rw [w18]; rfl) (by decide) ?_
        exact law_tryNext hL C1 hk hA1 hA2 hn1 hn2 hdis hj c_sr t_n t_r t_w s_w s_h s_c s_p s_s p_nx p_sz r_k r_r r_p l_z q_z t_t b_l b_b b_n r_t l_l l_b l_n q_l q_b q_n t_le s_cs s_ps s_ha s_en pk ik s_ro s_me s_be s_se s_co pl pb pn il ib im l_a q_a m_w m_h m_c m_s m_le m_un m_he m_ro m_wi m_hi m_hr m_hp m_rn m_rw m_rh m_n m_l m_b m_to m_hs m_ho m_tx m_ik m_wt m_ac m_ap m_pa m_im m_ri hRel hP1 hP2 hS hl kk1
      by_cases w19 : x = 19
      · refine lv_tableIn (tgt := 546) (off := 514) hx hb dL_law_32 (by rw [w19]; decide) (by rw [w19]; decide) (by rw [w19]; rfl) (by decide) ?_
        exact law_keep hL C1 hk hA1 hA2 hn1 hn2 hdis hj c_sr t_n t_r t_w s_w s_h s_c s_p s_s p_nx p_sz r_k r_r r_p l_z q_z t_t b_l b_b b_n r_t l_l l_b l_n q_l q_b q_n t_le s_cs s_ps s_ha s_en pk ik s_ro s_me s_be s_se s_co pl pb pn il ib im l_a q_a m_w m_h m_c m_s m_le m_un m_he m_ro m_wi m_hi m_hr m_hp m_rn m_rw m_rh m_n m_l m_b m_to m_hs m_ho m_tx m_ik m_wt m_ac m_ap m_pa m_im m_ri hRel hP1 hP2 hS hl kk1
      by_cases w20 : x = 20
      · refine lv_tableIn (tgt := 569) (off := 537) hx hb dL_law_32 (by rw [w20]; decide) (by rw [w20]; decide) (by rw [w20]; rfl) (by decide) ?_
        exact law_back hL C1 hk hA1 hA2 hn1 hn2 hdis hj c_sr t_n t_r t_w s_w s_h s_c s_p s_s p_nx p_sz r_k r_r r_p l_z q_z t_t b_l b_b b_n r_t l_l l_b l_n q_l q_b q_n t_le s_cs s_ps s_ha s_en pk ik s_ro s_me s_be s_se s_co pl pb pn il ib im l_a q_a m_w m_h m_c m_s m_le m_un m_he m_ro m_wi m_hi m_hr m_hp m_rn m_rw m_rh m_n m_l m_b m_to m_hs m_ho m_tx m_ik m_wt m_ac m_ap m_pa m_im m_ri hRel hP1 hP2 hS hl kk1
      by_cases w21 : x = 21
      · refine lv_tableIn (tgt := 592) (off := 560) hx hb dL_law_32 (by rw [w21]; decide) (by rw [w21]; decide) (by rw [w21]; rfl) (by decide) ?_
        exact law_count hL C1 hk hA1 hA2 hn1 hn2 hdis hj c_sr t_n t_r t_w s_w s_h s_c s_p s_s p_nx p_sz r_k r_r r_p l_z q_z t_t b_l b_b b_n r_t l_l l_b l_n q_l q_b q_n t_le s_cs s_ps s_ha s_en pk ik s_ro s_me s_be s_se s_co pl pb pn il ib im l_a q_a m_w m_h m_c m_s m_le m_un m_he m_ro m_wi m_hi m_hr m_hp m_rn m_rw m_rh m_n m_l m_b m_to m_hs m_ho m_tx m_ik m_wt m_ac m_ap m_pa m_im m_ri hRel hP1 hP2 hS hl kk1
      refine lv_tableOut (tgt := 615) hx hb dL_law_32 (sw_out22 w0 w1 w2 w3 w4 w5 w6 w7 w8 w9 w10 w11 w12 w13 w14 w15 w16 w17 w18 w19 w20 w21) (by decide) ?_
      exact kk1 c_sr t_n t_r t_w s_w s_h s_c s_p s_s p_nx p_sz r_k r_r r_p l_z q_z t_t b_l b_b b_n r_t l_l l_b l_n q_l q_b q_n t_le s_cs s_ps s_ha s_en pk ik s_ro s_me s_be s_se s_co pl pb pn il ib im l_a q_a m_w m_h m_c m_s m_le m_un m_he m_ro m_wi m_hi m_hr m_hp m_rn m_rw m_rh m_n m_l m_b m_to m_hs m_ho m_tx m_ik m_wt m_ac m_ap m_pa m_im m_ri H locs hRel hP1 hP2 hS
set_option maxHeartbeats 4000000 in
set_option maxRecDepth 100000 in
theorem whole_start {p : Program} {e : Env} {s : State} {m : MethodId} {below : List Frame} {meth : Method} {c : Code} (l : Launch) (hflags : l.flags = flags0) {b L : Nat} {xs : Nat → Int32} (hL : L ≤ 2048) (C0 : lw_At p s m meth c b L xs) : W p l e room_1 s m #[Value.ref b] below meth c s.heap [] 0 0 (lw_Z below #[Value.ref b] s) (entryFrame m ([Value.ref b] : List Value).toArray 4) := by
  obtain ⟨hx, hb, hrt, hml, hown, hts0, hX, hbl, hlocks, hgv⟩ := id C0
  have hts : ∀ w ∈ W0, w.before #[Value.ref b] s = true := fun w h => hts0 w (w0_tbl h)
  have hown : s.vm.findClass RL = some m.cls := hown
  have hA : ∀ q : Nat, s.heap.size ≤ q → (fun q : Nat => s.heap.size ≤ q) q := fun _ h => h
  have hbA : ¬ (fun q : Nat => s.heap.size ≤ q) b := Nat.not_le.mpr hbl
  obtain ⟨d0, i0, hKn0⟩ := u_known (C := RX0) (T := TX0) (N := 3) (n := 3) hts u_X0 (hts _ q1_109)
  obtain ⟨d1, i1, hKn1⟩ := u_known (C := RX1) (T := TX1) (N := 6) (n := 6) hts u_X1 (hts _ q1_203)
  obtain ⟨d2, i2, hKn2⟩ := u_known (C := RX2) (T := TX2) (N := 3) (n := 3) hts u_X2 (hts _ q1_133)
  obtain ⟨d3, i3, hKn3⟩ := u_known (C := RX3) (T := TX3) (N := 6) (n := 6) hts u_X3 (hts _ q1_174)
  obtain ⟨d4, i4, hKn4⟩ := u_known (C := RX4) (T := TX4) (N := 14) (n := 14) hts u_X4 (hts _ q1_51)
  obtain ⟨d5, i5, hKn5⟩ := u_known (C := RX5) (T := TX5) (N := 4) (n := 4) hts u_X5 (hts _ q1_139)
  obtain ⟨d6, i6, hKn6⟩ := u_known (C := RX6) (T := TX6) (N := 5) (n := 5) hts u_X6 (hts _ q1_24)
  obtain ⟨d7, i7, hKn7⟩ := u_known (C := RX7) (T := TX7) (N := 9) (n := 9) hts u_X7 (hts _ q1_16)
  obtain ⟨d8, i8, hKn8⟩ := u_known (C := RX8) (T := TX8) (N := 29) (n := 29) hts u_X8 (hts _ q3_223)
  obtain ⟨D, hKc⟩ : ∃ (D : va_G), ∀ (k : Nat) (q : vw_C), vwCl[k]? = some q → u_Kn s q.1 q.2.1 q.2.2 (D.1 k) (D.2 k) := by
    refine ⟨(fun k => match k with | 0 => d0 | 1 => d1 | 2 => d2 | 3 => d3 | 4 => d4 | 5 => d5 | 6 => d6 | 7 => d7 | 8 => d8 | _ => d0, fun k => match k with | 0 => i0 | 1 => i1 | 2 => i2 | 3 => i3 | 4 => i4 | 5 => i5 | 6 => i6 | 7 => i7 | 8 => i8 | _ => i0), ?_⟩
    intro k q hq
    match k, hq with
    | 0, hq => cases hq; exact hKn0
    | 1, hq => cases hq; exact hKn1
    | 2, hq => cases hq; exact hKn2
    | 3, hq => cases hq; exact hKn3
    | 4, hq => cases hq; exact hKn4
    | 5, hq => cases hq; exact hKn5
    | 6, hq => cases hq; exact hKn6
    | 7, hq => cases hq; exact hKn7
    | 8, hq => cases hq; exact hKn8
    | k + 9, hq => simp [vwCl] at hq
  obtain ⟨cI, hI1⟩ := ak_of (hts _ q1_49) (fun _ h => by cases h)
  obtain ⟨cL, hL1⟩ := ak_of (hts _ q1_107) (fun _ h => by cases h)
  obtain ⟨cZ, hZ1⟩ := ak_of (hts _ q4_100) (fun _ h => by cases h)
  have hk : kk D cI cL cZ s := by
    refine ⟨⟨hKc, fun k q hq => ?_⟩, fun w hw => va_Nw.of (nw_tab w hw) (hts0 w (nw_in w hw))⟩
    match k, hq with
    | 0, hq => cases hq; exact hI1
    | 1, hq => cases hq; exact hL1
    | 2, hq => cases hq; exact hZ1
    | k + 3, hq => simp at hq
  have hS : va_S (fun q : Nat => s.heap.size ≤ q) s.heap s.heap [] := va_S.rf
  have hP : va_P D vwCl [] s.heap := fun k q h => by simp at h
  have hD : va_D (fun q : Nat => s.heap.size ≤ q) [] := ⟨fun i j p q h => by simp at h, fun k q h => by simp at h⟩
  have hl := lv_entry ([.ref b]) (n := 4) (Nat.le_of_ble_eq_true rfl)
  rw [lg_entry_eq]
  generalize (lg_sl ([.ref b]) ++ List.replicate (4 - (lg_sl ([.ref b])).length) Slot.unset).toArray = ls at hl ⊢
  have hl : lv_has ls 4 [(0, .ref b)] := hl
  refine va_new (ci := 7) (fs := [.null, .null, .null, .null, .null, .null, .null, .null, .int 0]) (C := RX7) (T := TX7) (N := 9) hx hb hts u_X7 tyX7 tyX7_ok hown (hts _ q1_15) (hts _ q1_16) (hts _ q1_1) hk.1 hP hD hS hA rfl fs_X7 (Nat.le_of_ble_eq_true rfl) (Nat.le_of_ble_eq_true rfl) dL_law_0 (fun qx H hP hD hS => ?_)
  have hP : va_P D vwCl [(qx, .inr (7, [.null, .null, .null, .null, .null, .null, .null, .null, .int 0]))] H := hP
  have hD : va_D (fun q : Nat => s.heap.size ≤ q) [(qx, .inr (7, [.null, .null, .null, .null, .null, .null, .null, .null, .int 0]))] := hD
  refine W.widen (k := 1) (n := 9) (Nat.le_of_ble_eq_true rfl) (Nat.le_of_ble_eq_true rfl) ?_
  refine lv_dup hx hb dL_law_3 rfl ?_
  have hPc := hP.sub (ws' := [(qx, .inr (7, [.null, .null, .null, .null, .null, .null, .null, .null, .int 0]))]) [0] rfl
  have hFc := va_free (wc := [(qx, .inr (7, [.null, .null, .null, .null, .null, .null, .null, .null, .int 0]))]) hD hS hA [0] rfl
  refine va_callv (va_runI (As := []) (rest := [.ref qx]) ⟨hx, hb, hml, hown, hts⟩ (k_X7_init l D cI cL cZ qx H.size) (cwI 0 hts (gN q1_19) rfl rfl rfl (hts _ q1_1) (hts _ q1_17) (hts _ q1_18) rfl hd_X7_init.2 ⟨Nat.le_of_ble_eq_true rfl, Nat.le_of_ble_eq_true rfl⟩) ⟨pC.blind, pC.pre hPc hk⟩ rfl rfl hl.1 rfl (lv_room (Nat.le_of_ble_eq_true rfl)) dL_law_4 ⟨Nat.le_of_ble_eq_true rfl, Nat.le_of_ble_eq_true rfl⟩) hS (fun q _ h => hFc q h) hFc (fun ad1 t H1 locs ht hvm hw hB hz1 hk1 hS => ?_)
  obtain ⟨hP1, hD1⟩ := hB
  rw [ht] at hP1
  obtain ⟨hw0, hA1⟩ := hw
  obtain ⟨hP, hD⟩ := va_join (wr := []) (w1 := (cw ad1 cI cL cZ 0 0 0 0 cBec.1 cBec.2.1 cBec.2.2.1 cBec.2.2.2.1 cBec.2.2.2.2.1 0 0 0 0 0 0 0 0 0 0 0 0 0 0 0 0 0 0 ((fun _ => 0)) cBec.2.2.2.2.2.1 cBec.2.2.2.2.2.2.1 cBec.2.2.2.2.2.2.2.1 cBec.2.2.2.2.2.2.2.2.1 ((fun _ => 0)) ((fun _ => 0)) cBec.2.2.2.2.2.2.2.2.2.1 cBec.2.2.2.2.2.2.2.2.2.2.1 cBec.2.2.2.2.2.2.2.2.2.2.2.1 cBec.2.2.2.2.2.2.2.2.2.2.2.2.1 cBec.2.2.2.2.2.2.2.2.2.2.2.2.2 ((fun _ => 0)) ((fun _ => 0)) ((fun _ => 0)) ((fun _ => 0)) ((fun _ => 0)) ((fun _ => 0)) ((fun _ => 0)) ((fun _ => 0)))) hP hD [0] [] rfl rfl (by decide) (by decide) hk1 hFc hP1 hD1
  generalize H1 = H at hP hS ⊢
  have hP : va_P D vwCl (cw ad1 cI cL cZ 0 0 0 0 cBec.1 cBec.2.1 cBec.2.2.1 cBec.2.2.2.1 cBec.2.2.2.2.1 0 0 0 0 0 0 0 0 0 0 0 0 0 0 0 0 0 0 ((fun _ => 0)) cBec.2.2.2.2.2.1 cBec.2.2.2.2.2.2.1 cBec.2.2.2.2.2.2.2.1 cBec.2.2.2.2.2.2.2.2.1 ((fun _ => 0)) ((fun _ => 0)) cBec.2.2.2.2.2.2.2.2.2.1 cBec.2.2.2.2.2.2.2.2.2.2.1 cBec.2.2.2.2.2.2.2.2.2.2.2.1 cBec.2.2.2.2.2.2.2.2.2.2.2.2.1 cBec.2.2.2.2.2.2.2.2.2.2.2.2.2 ((fun _ => 0)) ((fun _ => 0)) ((fun _ => 0)) ((fun _ => 0)) ((fun _ => 0)) ((fun _ => 0)) ((fun _ => 0)) ((fun _ => 0))) H := hP
  have hD : va_D (fun q : Nat => s.heap.size ≤ q) (cw ad1 cI cL cZ 0 0 0 0 cBec.1 cBec.2.1 cBec.2.2.1 cBec.2.2.2.1 cBec.2.2.2.2.1 0 0 0 0 0 0 0 0 0 0 0 0 0 0 0 0 0 0 ((fun _ => 0)) cBec.2.2.2.2.2.1 cBec.2.2.2.2.2.2.1 cBec.2.2.2.2.2.2.2.1 cBec.2.2.2.2.2.2.2.2.1 ((fun _ => 0)) ((fun _ => 0)) cBec.2.2.2.2.2.2.2.2.2.1 cBec.2.2.2.2.2.2.2.2.2.2.1 cBec.2.2.2.2.2.2.2.2.2.2.2.1 cBec.2.2.2.2.2.2.2.2.2.2.2.2.1 cBec.2.2.2.2.2.2.2.2.2.2.2.2.2 ((fun _ => 0)) ((fun _ => 0)) ((fun _ => 0)) ((fun _ => 0)) ((fun _ => 0)) ((fun _ => 0)) ((fun _ => 0)) ((fun _ => 0))) := hD
  refine W.widen (k := 30) (n := 10588) (Nat.le_of_ble_eq_true rfl) (Nat.le_of_ble_eq_true rfl) ?_
  rw [← hw0]
  refine lv_astore_n (lv' := [(1, .ref (ad1 0)), (0, .ref b)]) hx hb dL_law_7 rfl hl (by decide) rfl (fun ls hl => ?_)
  refine va_new (ci := 8) (fs := [.long 0, .long 0, .long 0, .int 0, .int 0, .int 0, .int 0, .null, .null, .null, .null, .int 0, .null, .int 0, .null, .null, .int 0, .int 0, .int 0, .long 0, .int 0, .int 0, .int 0, .long 0, .null, .int 0, .int 0, .int 0, .null]) (C := RX8) (T := TX8) (N := 29) hx hb hts u_X8 tyX8 tyX8_ok hown (hts _ q3_222) (hts _ q3_223) (hts _ q1_11) hk.1 hP hD hS hA rfl fs_X8 (Nat.le_of_ble_eq_true rfl) (Nat.le_of_ble_eq_true rfl) dL_law_8 (fun qm H hP hD hS => ?_)
  have hP : va_P D vwCl ((cw ad1 cI cL cZ 0 0 0 0 cBec.1 cBec.2.1 cBec.2.2.1 cBec.2.2.2.1 cBec.2.2.2.2.1 0 0 0 0 0 0 0 0 0 0 0 0 0 0 0 0 0 0 ((fun _ => 0)) cBec.2.2.2.2.2.1 cBec.2.2.2.2.2.2.1 cBec.2.2.2.2.2.2.2.1 cBec.2.2.2.2.2.2.2.2.1 ((fun _ => 0)) ((fun _ => 0)) cBec.2.2.2.2.2.2.2.2.2.1 cBec.2.2.2.2.2.2.2.2.2.2.1 cBec.2.2.2.2.2.2.2.2.2.2.2.1 cBec.2.2.2.2.2.2.2.2.2.2.2.2.1 cBec.2.2.2.2.2.2.2.2.2.2.2.2.2 ((fun _ => 0)) ((fun _ => 0)) ((fun _ => 0)) ((fun _ => 0)) ((fun _ => 0)) ((fun _ => 0)) ((fun _ => 0)) ((fun _ => 0))) ++ [(qm, .inr (8, [.long 0, .long 0, .long 0, .int 0, .int 0, .int 0, .int 0, .null, .null, .null, .null, .int 0, .null, .int 0, .null, .null, .int 0, .int 0, .int 0, .long 0, .int 0, .int 0, .int 0, .long 0, .null, .int 0, .int 0, .int 0, .null]))]) H := hP
  have hD : va_D (fun q : Nat => s.heap.size ≤ q) ((cw ad1 cI cL cZ 0 0 0 0 cBec.1 cBec.2.1 cBec.2.2.1 cBec.2.2.2.1 cBec.2.2.2.2.1 0 0 0 0 0 0 0 0 0 0 0 0 0 0 0 0 0 0 ((fun _ => 0)) cBec.2.2.2.2.2.1 cBec.2.2.2.2.2.2.1 cBec.2.2.2.2.2.2.2.1 cBec.2.2.2.2.2.2.2.2.1 ((fun _ => 0)) ((fun _ => 0)) cBec.2.2.2.2.2.2.2.2.2.1 cBec.2.2.2.2.2.2.2.2.2.2.1 cBec.2.2.2.2.2.2.2.2.2.2.2.1 cBec.2.2.2.2.2.2.2.2.2.2.2.2.1 cBec.2.2.2.2.2.2.2.2.2.2.2.2.2 ((fun _ => 0)) ((fun _ => 0)) ((fun _ => 0)) ((fun _ => 0)) ((fun _ => 0)) ((fun _ => 0)) ((fun _ => 0)) ((fun _ => 0))) ++ [(qm, .inr (8, [.long 0, .long 0, .long 0, .int 0, .int 0, .int 0, .int 0, .null, .null, .null, .null, .int 0, .null, .int 0, .null, .null, .int 0, .int 0, .int 0, .long 0, .int 0, .int 0, .int 0, .long 0, .null, .int 0, .int 0, .int 0, .null]))]) := hD
  refine W.widen (k := 31) (n := 10617) (Nat.le_of_ble_eq_true rfl) (Nat.le_of_ble_eq_true rfl) ?_
  refine lv_dup hx hb dL_law_11 rfl ?_
  have hPc := hP.sub (ws' := [(qm, .inr (8, [.long 0, .long 0, .long 0, .int 0, .int 0, .int 0, .int 0, .null, .null, .null, .null, .int 0, .null, .int 0, .null, .null, .int 0, .int 0, .int 0, .long 0, .int 0, .int 0, .int 0, .long 0, .null, .int 0, .int 0, .int 0, .null]))]) [30] rfl
  have hFc := va_free (wc := [(qm, .inr (8, [.long 0, .long 0, .long 0, .int 0, .int 0, .int 0, .int 0, .null, .null, .null, .null, .int 0, .null, .int 0, .null, .null, .int 0, .int 0, .int 0, .long 0, .int 0, .int 0, .int 0, .long 0, .null, .int 0, .int 0, .int 0, .null]))]) hD hS hA [30] rfl
  refine va_callv (va_runI (As := []) (rest := [.ref qm]) ⟨hx, hb, hml, hown, hts⟩ (k_X8_init l D cI cL cZ qm H.size) (cwI 0 hts (gN q3_226) rfl rfl rfl (hts _ q1_11) (hts _ q3_224) (hts _ q3_225) rfl hd_X8_init.2 ⟨Nat.le_of_ble_eq_true rfl, Nat.le_of_ble_eq_true rfl⟩) ⟨pC.blind, pC.pre hPc hk⟩ rfl rfl hl.1 rfl (lv_room (Nat.le_of_ble_eq_true rfl)) dL_law_12 ⟨Nat.le_of_ble_eq_true rfl, Nat.le_of_ble_eq_true rfl⟩) hS (fun q _ h => hFc q h) hFc (fun ad2 t H1 locs ht hvm hw hB hz1 hk1 hS => ?_)
  obtain ⟨hP1, hD1⟩ := hB
  rw [ht] at hP1
  obtain ⟨hw2, hA2⟩ := hw
  obtain ⟨hP, hD⟩ := va_join (wr := (cw ad1 cI cL cZ 0 0 0 0 cBec.1 cBec.2.1 cBec.2.2.1 cBec.2.2.2.1 cBec.2.2.2.2.1 0 0 0 0 0 0 0 0 0 0 0 0 0 0 0 0 0 0 ((fun _ => 0)) cBec.2.2.2.2.2.1 cBec.2.2.2.2.2.2.1 cBec.2.2.2.2.2.2.2.1 cBec.2.2.2.2.2.2.2.2.1 ((fun _ => 0)) ((fun _ => 0)) cBec.2.2.2.2.2.2.2.2.2.1 cBec.2.2.2.2.2.2.2.2.2.2.1 cBec.2.2.2.2.2.2.2.2.2.2.2.1 cBec.2.2.2.2.2.2.2.2.2.2.2.2.1 cBec.2.2.2.2.2.2.2.2.2.2.2.2.2 ((fun _ => 0)) ((fun _ => 0)) ((fun _ => 0)) ((fun _ => 0)) ((fun _ => 0)) ((fun _ => 0)) ((fun _ => 0)) ((fun _ => 0)))) (w1 := (mw ad2 cI cL cZ 2 2 mLay.1 mLay.2.1 0 0 0 0 0 0 0 0 0 0 0 mN0 0 0 0 0 mLay.2.2.1 ((fun _ => 0)) ((fun _ => 0)) ((fun _ => 0)) mLay.2.2.2.1 mLay.2.2.2.2 ((fun _ => 0)) ((fun _ => 0)) ((fun _ => 0)))) hP hD [30] [0, 1, 2, 3, 4, 5, 6, 7, 8, 9, 10, 11, 12, 13, 14, 15, 16, 17, 18, 19, 20, 21, 22, 23, 24, 25, 26, 27, 28, 29] rfl rfl (by decide) (by decide) hk1 hFc hP1 hD1
  generalize H1 = H at hP hS ⊢
  refine W.widen (k := 40) (n := 20256) (Nat.le_of_ble_eq_true rfl) (Nat.le_of_ble_eq_true rfl) ?_
  rw [← hw2]
  refine lv_astore_n (lv' := [(2, .ref (ad2 0)), (1, .ref (ad1 0)), (0, .ref b)]) hx hb dL_law_15 rfl hl (by decide) rfl (fun ls hl => ?_)
  refine lv_iconst (v := 0) hx hb dL_law_16 (by decide) ?_
  refine lv_istore_n (lv' := [(3, .int (nI 0)), (2, .ref (ad2 0)), (1, .ref (ad1 0)), (0, .ref b)]) hx hb dL_law_17 rfl hl (by decide) rfl (fun ls hl => ?_)
  have hPx : va_P D vwCl (cw ad1 cI cL cZ 0 0 0 0 cBec.1 cBec.2.1 cBec.2.2.1 cBec.2.2.2.1 cBec.2.2.2.2.1 0 0 0 0 0 0 0 0 0 0 0 0 0 0 0 0 0 0 ((fun _ => 0)) cBec.2.2.2.2.2.1 cBec.2.2.2.2.2.2.1 cBec.2.2.2.2.2.2.2.1 cBec.2.2.2.2.2.2.2.2.1 ((fun _ => 0)) ((fun _ => 0)) cBec.2.2.2.2.2.2.2.2.2.1 cBec.2.2.2.2.2.2.2.2.2.2.1 cBec.2.2.2.2.2.2.2.2.2.2.2.1 cBec.2.2.2.2.2.2.2.2.2.2.2.2.1 cBec.2.2.2.2.2.2.2.2.2.2.2.2.2 ((fun _ => 0)) ((fun _ => 0)) ((fun _ => 0)) ((fun _ => 0)) ((fun _ => 0)) ((fun _ => 0)) ((fun _ => 0)) ((fun _ => 0))) H := hP.sub [0, 1, 2, 3, 4, 5, 6, 7, 8, 9, 10, 11, 12, 13, 14, 15, 16, 17, 18, 19, 20, 21, 22, 23, 24, 25, 26, 27, 28, 29] rfl
  have hPm : va_P D vwCl (mw ad2 cI cL cZ 2 2 mLay.1 mLay.2.1 0 0 0 0 0 0 0 0 0 0 0 mN0 0 0 0 0 mLay.2.2.1 ((fun _ => 0)) ((fun _ => 0)) ((fun _ => 0)) mLay.2.2.2.1 mLay.2.2.2.2 ((fun _ => 0)) ((fun _ => 0)) ((fun _ => 0))) H := hP.sub [30, 31, 32, 33, 34, 35, 36, 37, 38, 39] rfl
  have hall : ∀ q, (∃ k, k < 40 ∧ q = (fun k => if k < 30 then ad1 k else ad2 (k - 30)) k) → s.heap.size ≤ q := ad_of hD rfl
  have hinj := inj_of (ad := fun k => if k < 30 then ad1 k else ad2 (k - 30)) (n := 40) hD rfl
  refine law_main hL C0 hk hA1 hA2 (fun k hk => hall _ ⟨k, by omega, by simp [hk]⟩) (fun k hk => hall _ ⟨k + 30, by omega, by show ad2 k = if k + 30 < 30 then _ else ad2 (k + 30 - 30); rw [if_neg (by omega), Nat.add_sub_cancel]⟩) (fun i j hi hj e => ?_) (L + 1) 0 0 0 0 0 cBec.1 cBec.2.1 cBec.2.2.1 cBec.2.2.2.1 cBec.2.2.2.2.1 0 0 0 0 0 0 0 0 0 0 0 0 0 0 0 0 0 0 ((fun _ => 0)) cBec.2.2.2.2.2.1 cBec.2.2.2.2.2.2.1 cBec.2.2.2.2.2.2.2.1 cBec.2.2.2.2.2.2.2.2.1 ((fun _ => 0)) ((fun _ => 0)) cBec.2.2.2.2.2.2.2.2.2.1 cBec.2.2.2.2.2.2.2.2.2.2.1 cBec.2.2.2.2.2.2.2.2.2.2.2.1 cBec.2.2.2.2.2.2.2.2.2.2.2.2.1 cBec.2.2.2.2.2.2.2.2.2.2.2.2.2 ((fun _ => 0)) ((fun _ => 0)) ((fun _ => 0)) ((fun _ => 0)) ((fun _ => 0)) ((fun _ => 0)) ((fun _ => 0)) ((fun _ => 0)) 2 2 mLay.1 mLay.2.1 0 0 0 0 0 0 0 0 0 0 0 mN0 0 0 0 0 mLay.2.2.1 ((fun _ => 0)) ((fun _ => 0)) ((fun _ => 0)) mLay.2.2.2.1 mLay.2.2.2.2 ((fun _ => 0)) ((fun _ => 0)) ((fun _ => 0)) H _ ls (Nat.zero_le _) (by omega) rel_0 hPx hPm hS (lv_sub hl [3, 2, 1, 0] rfl)
  have := hinj i (j + 30) (by omega) (by omega) (by show (if i < 30 then ad1 i else _) = if j + 30 < 30 then _ else ad2 (j + 30 - 30); rw [if_pos hi, if_neg (by omega), Nat.add_sub_cancel]; exact e)
  omega
-- ===== YOUR PART ENDS =====
set_option maxHeartbeats 4000000 in
theorem lw_walk (l : Launch) (hflags : l.flags = flags0) (b : Addr) (xs : List Int32) : MetFree l x (headSpec (Jvm.Cond.code x code maxLocals ret :: tables_1) room_1) (lw_P b xs) (fun _ _ _ _ _ => True) lw_Q := by
  refine MetFree.of_bodyS (code := code) (maxLocals := maxLocals) (ret := ret) (by decide) ?_ ?_
  · intro args s m h hn
    obtain ⟨meth, c, h1, h2, h3, h4, h5, h6, -, -⟩ := Cond.code_spec hn (atoms_spec (ws := Jvm.Cond.code x code maxLocals ret :: tables_1) h _ List.mem_cons_self)
    exact ⟨meth, c, h1, h2, h3, h4, h5, h6⟩
  · intro p e s m args below meth c s₁ B hml0 hP _
    obtain ⟨rfl, hx, hbd, hgv⟩ := hP
    obtain ⟨scr, harrAt, hlist, hof, hsmall⟩ := hx
    obtain ⟨hcb, hkn, -, -⟩ := State.arrayAt?_spec harrAt
    have hown : s.vm.findClass R_law = some m.cls := findClass_of_methodNamed B.named
    have hts0 : ∀ c ∈ (Jvm.Cond.code x code maxLocals ret :: tables_1), c.before #[Value.ref b] s = true := atoms_spec (ws := Jvm.Cond.code x code maxLocals ret :: tables_1) B.pre
    have hts : ∀ w ∈ lw_tbl, w.before #[Value.ref b] s = true := k2_hts_sels lw_privs (fun w hw => hts0 w (List.mem_cons_of_mem _ hw)) lw_privs_ok
    have hml : c.maxLocals = 4 := B.maxLocals_eq (hts0 _ List.mem_cons_self)
    have X₀ : Stand p l e room_1 s m #[Value.ref b] below meth c s₁ [] 0 0 := Stand.of_body B
    have hh0 : s₁.heap = s.heap := by rw [B.state]; rfl
    have hsz : scr.slots.size = xs.length := by rw [← Array.length_toList, hlist, List.length_map]
    have hval : ∀ j : Nat, j < xs.length → scr.slots[j]? = some (.int (xs.getD j 0)) := fun j hj => by
      rw [← Array.getElem?_toList, hlist]
      simp [hj]
    have hbl : b < s.heap.size := (Array.getElem?_eq_some_iff.mp hcb).1
    have hX : va_X b xs.length (fun j => xs.getD j 0) s s.heap := ⟨scr, hcb, hof, hkn, hsz, hval⟩
    have K : W p l e room_1 s m #[Value.ref b] below meth c s₁.heap [] 0 0 (lw_Z below #[Value.ref b] s) (entryFrame m ([Value.ref b] : List Value).toArray 4) := by
      rw [hh0]
      exact whole_start l hflags hbd ⟨B.exec, B.bytes, B.returns, hml, hown, hts, hX, hbl, B.notSynchronized, hgv⟩
    obtain ⟨t, a1, o, b1, b2, b3⟩ := K s₁ rfl X₀
    exact ⟨t, o, a1, b1, b2, b3⟩
theorem lw_pre_spec {args : Array Value} {s : State} (h : (Jvm.Cond.and given_1 narrow_1).before args s = true) (hr : rest_1_c.before args s = true) : ∃ (b : Addr) (xs : List Int32), lw_P b xs args s := by
  have hs := flat_of_before _ h
  have hq := flat_of_before _ hr
  have hc : (Cond.count 1).before args s = true := hs _ (by decide +kernel)
  have harr : (Cond.arrayOf (.arg 0) .int).before args s = true := hs _ (by decide +kernel)
  have hle : (Cond.le (.length (.arg 0)) (.int 2048)).before args s = true := hs _ (by decide +kernel)
  have hlen : (Cond.isInt (.length (.arg 0))).before args s = true := hq _ (by decide +kernel)
  have hall : (Cond.all (.arg 0) (.isInt (.elem (.arg 0) (.index 0)))).before args s = true := hq _ (by decide +kernel)
  obtain ⟨b, xs, hb, hx⟩ := State.ints_of_pre rfl harr hlen hall
  have hsm : xs.length < 2 ^ 31 := hx.choose_spec.2.2.2
  have hev : (Term.length (.arg 0)).eval args s none [] s = some (.int xs.length.toInt32) := hx.length_eval hb
  have hv := Cond.le_ints hev (show (Term.int 2048).eval args s none [] s = some (.int 2048) from rfl)
  have hd : xs.length.toInt32 ≤ 2048 := by
    simpa [Cond.before, Cond.holds, hv] using hle
  have hN : xs.length ≤ 2048 := (Int32.ofNat_le_ofNat hsm (by decide)).mp (show Int32.ofNat xs.length ≤ Int32.ofNat 2048 from hd)
  exact ⟨b, xs, Cond.one_arg hc (show args[0]? = some (.ref b) from hb), hx, hN, h⟩
theorem lw_comes (l : Launch) (hflags : l.flags = flags0) : Comes l x (Jvm.Cond.code x code maxLocals ret :: tables_1) room_1 (fun tb e args s => Calls_1 tb e args s ∧ rest_1 tb e args s ∧ Pre_1 tb e args s)
    (fun _ _ args s o t => lw_Q args s o t) := by
  intro p e ha hc hk s m args below hf hfit hheap happ hpre
  obtain ⟨b, xs, hP⟩ := lw_pre_spec hpre.2.2 hpre.2.1
  obtain ⟨k, o, h1, h2, h3, hQ⟩ := lw_walk l hflags b xs p e ha hc hk s m args below hf ((Spec.applies_iff_loose hf).mp happ).1 hP trivial
  exact ⟨k, o, h1, h2, h3, hQ⟩
theorem lw_frame {s t : State} {o : Outcome} {args : Array Value} (h : Framed s o t [] 600000 7302250) :
    Framed s o t (fieldLocs frame_1_writes args s ++ arrayLocs frame_1_arrays args s ++ staticLocs frame_1_statics s) 600000 7302250 := h
theorem lw_limb (L : Cond) (hL : ∀ (args : Array Value) (s t : State), L.after args s (.returned (some (.int 1))) t = true) :
    ArmFor flags0 classFile x code maxLocals ret World_1 tables_1 room_1 Calls_1 rest_1 Pre_1
      (fun tb e a s o t => postC L tb e a s o t ∧ Framed s o t (fieldLocs frame_1_writes a s ++ arrayLocs frame_1_arrays a s ++ staticLocs frame_1_statics s) 600000 7302250) := by
  intro l hflags _ _ p e ha hc hk s m args below hf hfit hheap happ hpre
  obtain ⟨k, o, h1, h2, h3, rfl, hF⟩ := lw_comes l hflags p e ha hc hk s m args below hf hfit hheap happ hpre
  exact ⟨k, _, h1, h2, h3, hL args s _, lw_frame hF⟩
theorem i_vc : Claimed_1_1 ∧ Claimed_1_2 := ⟨lw_limb limb_1_1 (fun args s t => by simp [limb_1_1, Cond.after, Cond.holds, Cond.value]), lw_limb limb_1_2 (fun args s t => Cond.after_iff.mpr (by
  first | (rw [show limb_1_2 = Cond.eq .result (.int 1) from rfl, Cond.eq_ints (x := 1) (y := 1) rfl rfl]; simp; done) | (simp [limb_1_2, Cond.value, Term.eval]; done)))⟩
