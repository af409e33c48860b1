section PSM
variable {G : zG} {d : Nat} {X0 X : zM} {Q : zV → zM → Prop} {B : Int → Int} {n t f c s g : Int} {m k : Nat} {p : Int → Int}
theorem ps_ZI_0 (h : ps_ZI B n t f X0 X k c s g p) : ps_ZI B n t f X0 X k c s 0 ps_p := ⟨h.1, h.2.1, h.2.2.1, fun j j0 j1 => by omega, h.2.2.2.2⟩
theorem m_zn2 (ht : 0 ≤ t ∧ t < 4) (hc : 0 ≤ c ∧ c < 24) {i j : Int} (hi : i = 889 * t + 12 * c + 3) (hj : j = 889 * t + 12 * c + 4) (hg : g ≤ 1) (h : ps_ZI B n t f X0 X k c s g p) : ps_ZI B n t f X0 (zset (zset X 240 i (-1)) 240 j (-1)) k c s g p ∧ (g = 1 → p 1 = -1 → p 2 = -1 → ps_ZI B n t f X0 (zset (zset X 240 i (-1)) 240 j (-1)) k c s 3 p) := by
  obtain ⟨⟨hM, hT⟩, ⟨a4, a5, a6⟩, ⟨b1, b7⟩, hp, hF⟩ := h
  have c1 : lx_M B n (zset (zset X 240 i (-1)) 240 j (-1)) ∧ ps_T B (zset (zset X 240 i (-1)) 240 j (-1)) k := ⟨ps_lM (ps_lM hM ⟨by decide, fun z => absurd z (by decide)⟩) ⟨by decide, fun z => absurd z (by decide)⟩, ps_lT (ps_lT hT (fun z => absurd z (by decide))) (fun z => absurd z (by decide))⟩
  have c2 : zset (zset X 240 i (-1)) 240 j (-1) 234 14 = 889 * t ∧ zset (zset X 240 i (-1)) 240 j (-1) 234 15 = f ∧ zset (zset X 240 i (-1)) 240 j (-1) 234 16 = 889 * t + 12 * c + 1 := ⟨by rw [zset_off (by decide), zset_off (by decide)]; exact a4, by rw [zset_off (by decide), zset_off (by decide)]; exact a5, by rw [zset_off (by decide), zset_off (by decide)]; exact a6⟩
  have c3 : zset (zset X 240 i (-1)) 240 j (-1) 240 (889 * t + 12 * c + 1) = s ∧ zset (zset X 240 i (-1)) 240 j (-1) 240 (889 * t + 12 * c + 7) = f := ⟨by rw [zset_ne (by omega), zset_ne (by omega)]; exact b1, by rw [zset_ne (by omega), zset_ne (by omega)]; exact b7⟩
  have c4 : zfr (ps_GI t c) X0 (zset (zset X 240 i (-1)) 240 j (-1)) := zfr_set (zfr_set hF (zhit_at 1 rfl (by omega))) (zhit_at 1 rfl (by omega))
  refine ⟨⟨c1, c2, c3, fun q q0 q1 => by rw [zset_ne (by omega), zset_ne (by omega)]; exact hp q q0 q1, c4⟩, fun g1 p1 p2 => ⟨c1, c2, c3, fun q q0 q1 => ?_, c4⟩⟩
  by_cases e0 : q = 0
  · rw [zset_ne (by omega), zset_ne (by omega)]; exact hp q q0 (by omega)
  · by_cases e1 : q = 1
    · rw [zset_ne (by omega), show 889 * t + 12 * c + 2 + q = i by omega, zset_same, e1, p1]
    · rw [show 889 * t + 12 * c + 2 + q = j by omega, zset_same, show q = 2 by omega, p2]
theorem m_body (hG : zP G) (hE : ps_E B n m) (ht : 0 ≤ t ∧ t < 4) (hc : 0 ≤ c ∧ c < 24) (hs : 1 ≤ s ∧ s ≤ 8) (hk : k ≤ m) (h : ps_ZI B n t f X0 X k c s 0 ps_p) (hok : ∀ X' k' g' p', ps_bd B s k = (0, k', g', p') → k' ≤ m → ps_ZI B n t f X0 X' k' c s g' p' → Q (0, 0) X') (hfl : ∀ X' e k' g' p', ps_bd B s k = (e, k', g', p') → (1 ≤ e ∧ e ≤ 2) → ps_ZI B n t f X0 X' k' c s 0 ps_p → Q (0, e) X') (hse : ∀ X' k' g' p', ps_bd B s k = (0, k', g', p') → lx_c B (lx_j B k') ≠ 13 → ps_ZI B n t f X0 X' k' c s 0 ps_p → Q (0, 1) X') : Y G (d + 8) mX12_body 0 [(2, 234), (0, s), (9, 0)] [] X Q := by
  have hss : s = 1 ∨ s = 2 ∨ s = 3 ∨ s = 4 ∨ s = 5 ∨ s = 6 ∨ s = 7 ∨ s = 8 := by omega
  rcases hss with e | e | e | e | e | e | e | e <;> subst e <;> refine bX12_body_0 hG ⟨fun z => ?_, fun z => ?_, fun z => ?_, fun z => ?_, fun z => ?_, fun z => ?_, fun z => ?_, fun z => ?_, fun z => ?_⟩ <;> first | (exact absurd z (by decide)) | skip
  · -- let
    have hT := h.1.2
    have a6 := h.2.1.2.2
    have e1 : ps_bd B 1 k = if 44 ≤ lx_c B (lx_j B k) ∧ lx_c B (lx_j B k) ≤ 47 then ps_fw B [(29, 0, 0), (2, 0, 99)] (k + 1) 1 (zup ps_p 0 (lx_c B (lx_j B k) - 44)) else (1, k, 0, ps_p) := rfl
    rw [e1] at hok hfl
    refine bX12_let_0 hG (m_thing hG hT (fun z1 => bX12_let_4 hG ?_) (fun z1 => bX12_let_4 hG ⟨fun w => absurd w (by decide), fun _ => bX12_body_57 hG ?_⟩))
    · rw [if_pos z1] at hok hfl
      have km := ps_lt hE hk (by omega)
      rw [a6]
      refine ⟨fun _ => ⟨by omega, m_thing hG hT (fun _ => bX12_let_23 hG ⟨by omega, ?_⟩) (fun w => absurd z1 w)⟩, fun w => by omega⟩
      refine m_znx (d := d + 5) hG hE km ht hc (by decide) (m_zst ht hc (by decide) (by omega) h) (fun X1 h1 => bX12_let_28 hG (m_wor (d := d + 3) (cw := 29) hG hE (by omega) ht hc (by decide) (by decide) (by decide) (by decide +kernel) h1 (fun X2 r k2 h2 => bX12_let_39 hG (bX12_body_57 hG (hok X2 _ _ _ r k2 h2))) (fun X2 e k' he r h2 => bX12_let_39 hG (bX12_body_57 hG (hfl X2 e k' _ _ r he (ps_ZI_0 h2))))))
    · rw [if_neg z1] at hfl
      exact hfl X 1 k 0 ps_p rfl (by decide) h
  · -- born
    have e1 : ps_bd B 2 k = if (ps_fw B [(2, 0, 99)] k 0 ps_p).1 = 0 then (if lx_c B (lx_j B (k + 1)) = 30 then ps_fw B ([(30, 0, 0), (2, 0, 7)] ++ [(31, 0, 0), (2, 0, 7)]) (k + 1) 1 (zup ps_p 0 (lx_v B (lx_j B k))) else (0, k + 1, 3, zup ps_p 0 (lx_v B (lx_j B k)))) else ps_fw B [(2, 0, 99)] k 0 ps_p := rfl
    rw [e1] at hok hfl hse
    refine bX12_born_0 hG (m_fig (d := d + 4) hG hE hk ht hc (by decide) (by decide) h (fun X1 r1 k1m h1 => bX12_born_8 hG ?_) (fun X1 e he r1 h1 => bX12_born_8 hG ?_))
    · rw [if_pos (by rw [r1])] at hok hfl hse
      have a6 := h1.2.1.2.2
      have hT := h1.1.2
      rw [a6]
      obtain ⟨q1, q3⟩ := m_zn2 (i := 889 * t + 12 * c + 1 + 2) (j := 889 * t + 12 * c + 1 + 3) ht hc (by omega) (by omega) (by decide) h1
      have q3' := q3 rfl (zup_ne (by decide)) (zup_ne (by decide))
      refine ⟨by omega, by omega, by omega, by omega, fun w => absurd rfl w, fun _ => ⟨fun z59 => ?_, fun z59 => bX12_body_62 hG ?_⟩⟩
      · have z13 : lx_c B (lx_j B (k + 1)) ≠ 13 := fun w => z59 ((ps_s hT (13, 59) (by decide)).mpr w)
        refine m_wor (d := d + 3) (cw := 30) hG hE k1m ht hc (by decide) (by decide) (by decide) (by decide +kernel) q1 (fun X2 r2 k2m h2 => bX12_born_59 hG ⟨fun _ => ?_, fun w => absurd rfl w⟩) (fun X2 e k' he r2 h2 => bX12_born_59 hG ⟨fun w => by omega, fun _ => bX12_body_62 hG ?_⟩)
        · have c30 : lx_c B (lx_j B (k + 1)) = 30 := by
            by_cases w : lx_c B (lx_j B (k + 1)) = 30
            · exact w
            · rw [ps_fw_c, if_neg w] at r2
              exact absurd (congrArg Prod.fst r2) (show (1 : Int) ≠ 0 by decide)
          rw [if_pos c30] at hok hfl
          exact bX12_w3_0 hG (bX12_born_78 hG (m_wor (d := d + 3) (cw := 31) hG hE k2m ht hc (by decide) (by decide) (by decide) (by decide +kernel) h2 (fun X3 r3 k3m h3 => bX12_born_85 hG (bX12_body_62 hG (hok X3 _ _ _ ((ps_ap0 r2).trans r3) k3m h3))) (fun X3 e k' he r3 h3 => bX12_born_85 hG (bX12_body_62 hG (hfl X3 e k' _ _ ((ps_ap0 r2).trans r3) he (ps_ZI_0 h3))))))
        · by_cases w : lx_c B (lx_j B (k + 1)) = 30
          · rw [if_pos w] at hfl
            exact hfl X2 e k' _ _ (ps_ap1 r2 he) he (ps_ZI_0 h2)
          · rw [if_neg w] at hse
            rw [ps_fw_c, if_neg w] at r2
            have e1' : (1 : Int) = e := congrArg Prod.fst r2
            have e2' : k + 1 = k' := congrArg (fun z => z.2.1) r2
            subst e1'; subst e2'
            exact hse X2 (k + 1) 3 _ rfl z13 (ps_ZI_0 h2)
      · have c13 := (ps_s hT (13, 59) (by decide)).mp z59
        have c13' : lx_c B (lx_j B (k + 1)) = 13 := c13
        rw [if_neg (by rw [c13']; decide)] at hok
        exact hok _ (k + 1) 3 _ rfl k1m q3'
    · rw [if_neg (by rw [r1]; show e ≠ 0; omega)] at hfl
      have a6 := h1.2.1.2.2
      rw [a6]
      obtain ⟨q1, _⟩ := m_zn2 (i := 889 * t + 12 * c + 1 + 2) (j := 889 * t + 12 * c + 1 + 3) ht hc (by omega) (by omega) (by decide) h1
      exact ⟨by omega, by omega, by omega, by omega, fun _ => bX12_body_62 hG (hfl _ e k 0 ps_p r1 he q1), fun w => by omega⟩
  · -- path
    refine bX12_path_0 hG (m_fig (d := d + 4) hG hE hk ht hc (by decide) (by decide) h (fun X1 r1 k1m h1 => bX12_path_7 hG ⟨fun w => absurd rfl w, fun _ => ?_⟩) (fun X1 e he r1 h1 => bX12_path_7 hG ⟨fun _ => ⟨fun w => by omega, fun _ => bX12_body_67 hG (hfl X1 e k _ _ (ps_ap1 (b := [(32, 0, 0), (2, 0, 5), (33, 0, 0), (2, 1, 99)]) r1 he) he (ps_ZI_0 h1))⟩, fun w => by omega⟩))
    refine m_wor (d := d + 3) (cw := 32) hG hE k1m ht hc (by decide) (by decide) (by decide) (by decide +kernel) h1 (fun X2 r2 k2m h2 => bX12_path_22 hG ⟨fun _ => ?_, fun w => absurd rfl w⟩) (fun X2 e k' he r2 h2 => bX12_path_22 hG ⟨fun w => by omega, fun _ => bX12_body_67 hG (hfl X2 e k' _ _ ((ps_ap0 (b := [(32, 0, 0), (2, 0, 5), (33, 0, 0), (2, 1, 99)]) r1).trans (ps_ap1 (b := [(33, 0, 0), (2, 1, 99)]) r2 he)) he (ps_ZI_0 h2))⟩)
    exact bX12_w4_0 hG (bX12_w3_0 hG (bX12_w4_6 hG (bX12_path_43 hG (m_wor (d := d + 3) (cw := 33) hG hE k2m ht hc (by decide) (by decide) (by decide) (by decide +kernel) h2 (fun X3 r3 k3m h3 => bX12_path_50 hG (bX12_body_67 hG (hok X3 _ _ _ ((ps_ap0 (b := [(32, 0, 0), (2, 0, 5), (33, 0, 0), (2, 1, 99)]) r1).trans ((ps_ap0 (b := [(33, 0, 0), (2, 1, 99)]) r2).trans r3)) k3m h3))) (fun X3 e k' he r3 h3 => bX12_path_50 hG (bX12_body_67 hG (hfl X3 e k' _ _ ((ps_ap0 (b := [(32, 0, 0), (2, 0, 5), (33, 0, 0), (2, 1, 99)]) r1).trans ((ps_ap0 (b := [(33, 0, 0), (2, 1, 99)]) r2).trans r3)) he (ps_ZI_0 h3))))))))
  · -- say
    exact m_fig (d := d + 5) hG hE hk ht hc (by decide) (by decide) h (fun X1 r1 k1m h1 => bX12_body_77 hG (hok X1 _ _ _ r1 k1m h1)) (fun X1 e he r1 h1 => bX12_body_77 hG (hfl X1 e k _ _ r1 he h1))
  · -- pupil
    refine bX12_pupilClause_0 hG (m_fig (d := d + 4) hG hE hk ht hc (by decide) (by decide) h (fun X1 r1 k1m h1 => bX12_pupilClause_8 hG ⟨fun w => absurd rfl w, fun _ => ?_⟩) (fun X1 e he r1 h1 => bX12_pupilClause_8 hG ⟨fun _ => ⟨fun _ => ⟨fun _ => ⟨fun w => by omega, fun _ => bX12_body_82 hG (hfl X1 e k _ _ (ps_ap1 (b := [(34, 0, 0), (2, 0, 32767), (32, 0, 0), (2, 0, 99), (35, 0, 0), (2, 0, 8), (33, 0, 0), (2, 1, 16)]) r1 he) he (ps_ZI_0 h1))⟩, fun w => by omega⟩, fun w => by omega⟩, fun w => by omega⟩))
    refine bX12_w5_0 hG (bX12_w4_0 hG (bX12_w3_0 hG (bX12_w4_6 hG (bX12_w5_7 hG (bX12_pupilClause_27 hG (m_wor (d := d + 3) (cw := 34) hG hE k1m ht hc (by decide) (by decide) (by decide) (by decide +kernel) h1 (fun X2 r2 k2m h2 => bX12_pupilClause_35 hG ⟨fun w => absurd rfl w, fun _ => ?_⟩) (fun X2 e k' he r2 h2 => bX12_pupilClause_35 hG ⟨fun _ => ⟨fun _ => ⟨fun w => by omega, fun _ => bX12_body_82 hG (hfl X2 e k' _ _ ((ps_ap0 (b := [(34, 0, 0), (2, 0, 32767), (32, 0, 0), (2, 0, 99), (35, 0, 0), (2, 0, 8), (33, 0, 0), (2, 1, 16)]) r1).trans (ps_ap1 (b := [(32, 0, 0), (2, 0, 99), (35, 0, 0), (2, 0, 8), (33, 0, 0), (2, 1, 16)]) r2 he)) he (ps_ZI_0 h2))⟩, fun w => by omega⟩, fun w => by omega⟩)))))))
    have q2 := (ps_ap0 (b := [(34, 0, 0), (2, 0, 32767), (32, 0, 0), (2, 0, 99), (35, 0, 0), (2, 0, 8), (33, 0, 0), (2, 1, 16)]) r1).trans (ps_ap0 (b := [(32, 0, 0), (2, 0, 99), (35, 0, 0), (2, 0, 8), (33, 0, 0), (2, 1, 16)]) r2)
    refine m_wor (d := d + 3) (cw := 32) hG hE k2m ht hc (by decide) (by decide) (by decide) (by decide +kernel) h2 (fun X3 r3 k3m h3 => bX12_pupilClause_51 hG ⟨fun w => absurd rfl w, fun _ => ?_⟩) (fun X3 e k' he r3 h3 => bX12_pupilClause_51 hG ⟨fun _ => ⟨fun w => by omega, fun _ => bX12_body_82 hG (hfl X3 e k' _ _ (q2.trans (ps_ap1 (b := [(35, 0, 0), (2, 0, 8), (33, 0, 0), (2, 1, 16)]) r3 he)) he (ps_ZI_0 h3))⟩, fun w => by omega⟩)
    have q3 := q2.trans (ps_ap0 (b := [(35, 0, 0), (2, 0, 8), (33, 0, 0), (2, 1, 16)]) r3)
    refine bX12_w4_0 hG (bX12_w3_0 hG (bX12_w4_6 hG (bX12_pupilClause_68 hG (m_wor (d := d + 3) (cw := 35) hG hE k3m ht hc (by decide) (by decide) (by decide) (by decide +kernel) h3 (fun X4 r4 k4m h4 => bX12_pupilClause_75 hG ⟨fun _ => ?_, fun w => absurd rfl w⟩) (fun X4 e k' he r4 h4 => bX12_pupilClause_75 hG ⟨fun w => by omega, fun _ => bX12_body_82 hG (hfl X4 e k' _ _ (q3.trans (ps_ap1 (b := [(33, 0, 0), (2, 1, 16)]) r4 he)) he (ps_ZI_0 h4))⟩)))))
    have q4 := q3.trans (ps_ap0 (b := [(33, 0, 0), (2, 1, 16)]) r4)
    exact bX12_w4_0 hG (bX12_w3_0 hG (bX12_w4_6 hG (bX12_pupilClause_96 hG (m_wor (d := d + 3) (cw := 33) hG hE k4m ht hc (by decide) (by decide) (by decide) (by decide +kernel) h4 (fun X5 r5 k5m h5 => bX12_pupilClause_103 hG (bX12_body_82 hG (hok X5 _ _ _ (q4.trans r5) k5m h5))) (fun X5 e k' he r5 h5 => bX12_pupilClause_103 hG (bX12_body_82 hG (hfl X5 e k' _ _ (q4.trans r5) he (ps_ZI_0 h5))))))))
  · -- answer
    exact m_fig (d := d + 5) hG hE hk ht hc (by decide) (by decide) h (fun X1 r1 k1m h1 => bX12_body_92 hG (hok X1 _ _ _ r1 k1m h1)) (fun X1 e he r1 h1 => bX12_body_92 hG (hfl X1 e k _ _ r1 he h1))
  · -- asks
    refine m_fig (d := d + 5) hG hE hk ht hc (by decide) (by decide) h (fun X1 r1 k1m h1 => bX12_body_100 hG ⟨fun _ => ?_, fun w => absurd rfl w⟩) (fun X1 e he r1 h1 => bX12_body_100 hG ⟨fun w => by omega, fun _ => hfl X1 e k _ _ (ps_ap1 (b := [(2, 0, 11)]) r1 he) he h1⟩)
    exact m_fig (d := d + 5) hG hE k1m ht hc (by decide) (by decide) h1 (fun X2 r2 k2m h2 => bX12_body_117 hG (hok X2 _ _ _ ((ps_ap0 (b := [(2, 0, 11)]) r1).trans r2) k2m h2)) (fun X2 e he r2 h2 => bX12_body_117 hG (hfl X2 e _ _ _ ((ps_ap0 (b := [(2, 0, 11)]) r1).trans r2) he (ps_ZI_0 h2)))
  · -- morning
    exact hok X k 0 ps_p rfl hk h
end PSM
