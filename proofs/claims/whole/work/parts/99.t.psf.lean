section PSF
variable {G : zG} {d : Nat} {M M0 X0 X : zM} {Q : zV → zM → Prop} {B : Int → Int} {n t f op : Int} {m k L : Nat} {st v : Int → Int} {lv dp wd gr wh fk fw tm sg fc : Int}
theorem m_wst (hG : zP G) (hT : ps_T B M k) (h1 : (36 ≤ lx_c B (lx_j B k) ∧ lx_c B (lx_j B k) ≤ 41) → Q (0, lx_c B (lx_j B k) - 32) M) (h0 : ¬ (36 ≤ lx_c B (lx_j B k) ∧ lx_c B (lx_j B k) ≤ 41) → Q (0, -1) M) : Y G (d + 3) mX12_wordStep 0 [(2, 234)] [] M Q := by
  refine bX12_wordStep_0 hG (bX12_w3_0 hG (bX12_wordStep_10 hG (m_word hG (c := 36) hT (by decide) (by decide +kernel) (fun z => bX12_wordStep_13 hG ⟨fun w => absurd w (by decide), fun _ => ?_⟩) (fun z36 => bX12_wordStep_13 hG ⟨fun _ => ?_, fun w => absurd rfl w⟩))))
  · have q := h1 (by omega)
    rw [z] at q; exact q
  refine bX12_w4_0 hG (bX12_w3_0 hG (bX12_w4_6 hG (bX12_wordStep_30 hG (m_word hG (c := 37) hT (by decide) (by decide +kernel) (fun z => bX12_wordStep_33 hG ⟨fun w => absurd w (by decide), fun _ => ?_⟩) (fun z37 => bX12_wordStep_33 hG ⟨fun _ => ?_, fun w => absurd rfl w⟩)))))
  · have q := h1 (by omega)
    rw [z] at q; exact q
  refine bX12_w3_0 hG (bX12_wordStep_48 hG (m_word hG (c := 38) hT (by decide) (by decide +kernel) (fun z => bX12_wordStep_51 hG ⟨fun w => absurd w (by decide), fun _ => ?_⟩) (fun z38 => bX12_wordStep_51 hG ⟨fun _ => ?_, fun w => absurd rfl w⟩)))
  · have q := h1 (by omega)
    rw [z] at q; exact q
  refine bX12_w3_0 hG (bX12_wordStep_67 hG (m_word hG (c := 39) hT (by decide) (by decide +kernel) (fun z => bX12_wordStep_70 hG ⟨fun w => absurd w (by decide), fun _ => ?_⟩) (fun z39 => bX12_wordStep_70 hG ⟨fun _ => ?_, fun w => absurd rfl w⟩)))
  · have q := h1 (by omega)
    rw [z] at q; exact q
  refine bX12_w4_0 hG (bX12_w3_0 hG (bX12_w4_6 hG (bX12_wordStep_88 hG (m_word hG (c := 40) hT (by decide) (by decide +kernel) (fun z => bX12_wordStep_91 hG ⟨fun w => absurd w (by decide), fun _ => ?_⟩) (fun z40 => bX12_wordStep_91 hG ⟨fun _ => ?_, fun w => absurd rfl w⟩)))))
  · have q := h1 (by omega)
    rw [z] at q; exact q
  refine bX12_w4_0 hG (bX12_w3_0 hG (bX12_w4_6 hG (bX12_wordStep_111 hG (m_word hG (c := 41) hT (by decide) (by decide +kernel) (fun z => bX12_wordStep_114 hG ⟨fun w => absurd w (by decide), fun _ => ?_⟩) (fun z41 => bX12_wordStep_114 hG ⟨fun _ => h0 (by omega), fun w => absurd rfl w⟩)))))
  · have q := h1 (by omega)
    rw [z] at q; exact q
/-- the model has opened one and reads a sum in it -/
def ps_Lv (G : zG) (B : Int → Int) (n t f op : Int) (k L : Nat) (st v : Int → Int) (lv dp wd gr : Int) (k1 L1 : Nat) (st1 v1 : Int → Int) (lv1 dp1 wd1 gr1 kd w : Int) : Prop := ∀ (D : Nat) (X0 X : zM) (Q : zV → zM → Prop) (fk fw tm sg fc : Int), (0 ≤ fc ∧ fc ≤ 100) → ps_P B n t f X0 X k L st v lv dp wd gr op 0 fk fw tm sg fc → (∀ X1 X', ps_c X1 op fk fw tm sg fc → ps_q X0 X1 op → zfr (ps_G t f) X0 X1 → ps_P B n t f X1 X' k1 L1 st1 v1 lv1 dp1 wd1 gr1 (op + 1) 0 kd w 0 0 0 → Y G (D + 30) mX12_summed 36 [(2, 234), (9, 0)] [] X' Q) → Y G (D + 30) mX12_summed 36 [(2, 234), (9, 0)] [] X Q
/-- the model stands behind a sum in what it has opened -/
def ps_Be (G : zG) (B : Int → Int) (n t f op : Int) (k L : Nat) (st v : Int → Int) (lv dp wd gr : Int) (k1 L1 : Nat) (st1 v1 : Int → Int) (lv1 dp1 wd1 gr1 kd w : Int) : Prop := ∀ (D : Nat) (X0 X : zM) (Q : zV → zM → Prop) (fk fw tm sg fc : Int), (0 ≤ fc ∧ fc ≤ 100) → ps_P B n t f X0 X k L st v lv dp wd gr op 0 fk fw tm sg fc → (∀ (X1 X' : zM) (tm1 sg1 : Int), ps_c X1 op fk fw tm sg fc → ps_q X0 X1 op → zfr (ps_G t f) X0 X1 → ps_P B n t f X1 X' k1 L1 st1 v1 lv1 dp1 wd1 gr1 (op + 1) 1 kd w tm1 sg1 0 → Y G (D + 28 + 1) mX12_behindOne 125 [(2, 234)] [] X' (fun r M' => Y G (D + 29 + 1) mX12_summed 47 [(2, 234), (9, 0)] (zpush r []) M' Q)) → Y G (D + 30) mX12_summed 36 [(2, 234), (9, 0)] [] X Q
variable {k1 L1 k2 L2 : Nat} {st1 v1 st2 v2 : Int → Int} {lv1 dp1 wd1 gr1 lv2 dp2 wd2 gr2 kd w : Int}
theorem ps_Lv_s (h : ps_Lv G B n t f op k L st v lv dp wd gr k1 L1 st1 v1 lv1 dp1 wd1 gr1 kd w) (hS : ps_OS G B n t f (op + 1) k1 L1 st1 v1 lv1 dp1 wd1 gr1 k2 L2 st2 v2 lv2 dp2 wd2 gr2) : ps_Be G B n t f op k L st v lv dp wd gr k2 L2 st2 v2 lv2 dp2 wd2 gr2 kd w :=
  fun D X0 X Q fk fw tm sg fc fcb hP hh => h D X0 X Q fk fw tm sg fc fcb hP (fun X1 X' a1 a2 a3 hX => hS D X1 X' Q kd w hX (fun X2 tm2 sg2 h2 => hh X1 X2 tm2 sg2 a1 a2 a3 h2))
theorem ps_Lv_f {c : Int} {k' : Nat} (h : ps_Lv G B n t f op k L st v lv dp wd gr k1 L1 st1 v1 lv1 dp1 wd1 gr1 kd w) (hF : ps_FL G B n t f (op + 1) ps_p0 k1 L1 st1 v1 lv1 dp1 wd1 gr1 c k') : ps_FL G B n t f op ps_p1 k L st v lv dp wd gr c k' :=
  fun D X0 X Q fk fw tm sg fc pp hP hh => h D X0 X Q fk fw tm sg fc pp.1 hP (fun X1 X' _ _ a3 hX => hF D X1 X' Q kd w 0 0 0 ⟨rfl, rfl, rfl⟩ hX (fun X2 f2 m2 e2 => hh X2 (zfr_trans a3 f2) m2 e2))
theorem ps_bk (hP : ps_P B n t f X0 X k L st v lv dp wd gr op wh fk fw tm sg fc) : zfr (ps_G t f) X0 X ∧ lx_M B n X ∧ X 234 9 = lx_j B k ∧ ps_T B X k := ⟨hP.2.2.2, hP.1.1.1, hP.1.1.2.2.1, hP.1.1.2⟩
theorem m54 (hG : zP G) (D : Nat) (h : Y G (D + 30) mX12_summed 36 [(2, 234), (9, 0)] [] X Q) : Y G (D + 29 + 1) mX12_summed 54 [(2, 234), (9, 0)] [(0, 0)] X Q := bX12_summed_54 hG ⟨fun _ => ⟨fun _ => h, fun z => absurd rfl z⟩, fun z => absurd z (by decide)⟩
theorem m54c (hG : zP G) (D : Nat) {c : Int} (hc : 1 ≤ c ∧ c ≤ 4) (h : Q (0, c) X) : Y G (D + 29 + 1) mX12_summed 54 [(2, 234), (9, 0)] [(0, c)] X Q := bX12_summed_54 hG ⟨fun _ => ⟨fun z => by omega, fun _ => h⟩, fun z => by omega⟩
theorem m47 (hG : zP G) (D : Nat) (h : Y G (D + 30) mX12_summed 36 [(2, 234), (9, 0)] [] X Q) : Y G (D + 29 + 1) mX12_summed 47 [(2, 234), (9, 0)] [(0, 0)] X Q := bX12_summed_47 hG ⟨fun _ => ⟨fun _ => h, fun z => absurd rfl z⟩, fun z => absurd z (by decide)⟩
theorem m47c (hG : zP G) (D : Nat) {c : Int} (hc : 1 ≤ c ∧ c ≤ 4) (h : Q (0, c) X) : Y G (D + 29 + 1) mX12_summed 47 [(2, 234), (9, 0)] [(0, c)] X Q := bX12_summed_47 hG ⟨fun _ => ⟨fun z => by omega, fun _ => h⟩, fun z => by omega⟩
/-- the model at what opens: neither number nor thing -/
theorem m_b0 (hG : zP G) (D : Nat) (hc : lx_c B (lx_j B k) ≠ 2 ∧ ¬ (44 ≤ lx_c B (lx_j B k) ∧ lx_c B (lx_j B k) ≤ 47)) (hP : ps_P B n t f X0 X k L st v lv dp wd gr op 0 fk fw tm sg fc) (h : Y G (D + 28 + 1) mX12_beginOne 38 [(2, 234), (9, 0)] [(0, -1)] X (fun r M' => Y G (D + 29 + 1) mX12_summed 54 [(2, 234), (9, 0)] (zpush r []) M' Q)) : Y G (D + 30) mX12_summed 36 [(2, 234), (9, 0)] [] X Q := by
  have b := ps_bk hP
  exact bX12_summed_36 hG ⟨fun _ => bX12_beginOne_0 hG ⟨fun _ => m_thing hG b.2.2.2 (fun z => absurd z hc.2) (fun _ => h), fun z => absurd ((ps_1 b.2.2.2).mp z) hc.1⟩, fun z => absurd (ps_a hP).2.2.2.2.2 z⟩
theorem m_ob (hG : zP G) (hE : ps_E B n m) (hk : k < m) (ho : 0 ≤ op ∧ op ≤ 8) (ht : 0 ≤ t ∧ t < 4) (hf : 0 ≤ f ∧ f + L ≤ 300) (hc : lx_c B (lx_j B k) = 10) : (op < 8 → ps_Lv G B n t f op k L st v lv dp wd gr (k + 1) L st v lv (max dp (op + 1)) (zor wd 128) gr 1 0) ∧ (op = 8 → ps_FL G B n t f op ps_p1 k L st v lv dp wd gr 3 k) := by
  refine ⟨fun o8 D X0 X Q fk fw tm sg fc fcb hP hh => m_b0 hG D (by omega) hP (bX12_beginOne_38 hG ⟨fun _ => ?_, fun z => by omega⟩), fun o8 D X0 X Q fk fw tm sg fc pp hP hh => m_b0 hG D (by omega) hP (bX12_beginOne_38 hG ⟨fun _ => ?_, fun z => by omega⟩)⟩
  · have b := ps_bk hP
    have t40 : X 234 10 = 40 := (ps_s b.2.2.2 (10, 40) (by decide)).mpr hc
    rw [(ps_a hP).1, (ps_a hP).2.1]
    refine ⟨fun z => absurd t40 z, fun _ => ⟨fun z => by omega, fun _ => ?_⟩⟩
    have h1 : ps_P B n t f X0 (zset X 234 23 (zor wd 128)) k L st v lv dp (zor wd 128) gr op 0 fk fw tm sg fc := ps_fld hP (by decide)
    exact m_op (d := D + 25) hG hE hk ho ht hf h1 (fun _ X' h2 => bX12_beginOne_92 hG (m54 hG D (hh _ X' h1.2.1 h1.2.2.1 h1.2.2.2 h2))) (fun z => by omega)
  · have b := ps_bk hP
    have t40 : X 234 10 = 40 := (ps_s b.2.2.2 (10, 40) (by decide)).mpr hc
    rw [(ps_a hP).1, (ps_a hP).2.1]
    refine ⟨fun z => absurd t40 z, fun _ => ⟨fun _ => ?_, fun z => by omega⟩⟩
    exact m_op (d := D + 25) hG hE hk ho ht hf hP (fun z => by omega) (fun _ => bX12_beginOne_92 hG (m54c hG D (by decide) (hh X b.1 b.2.1 b.2.2.1)))
theorem m_of (hG : zP G) (hE : ps_E B n m) (hk : k < m) (ho : 0 ≤ op ∧ op ≤ 8) (ht : 0 ≤ t ∧ t < 4) (hf : 0 ≤ f ∧ f + L ≤ 300) (hc : lx_c B (lx_j B k) = 42) : (op < 8 → ps_Lv G B n t f op k L st v lv dp wd gr (k + 1) L st v lv (max dp (op + 1)) (zor wd 16384) gr 5 0) ∧ (op = 8 → ps_FL G B n t f op ps_p1 k L st v lv dp wd gr 3 k) := by
  have cd : (26982 : Int) = lx_cd 42 := by decide +kernel
  refine ⟨fun o8 D X0 X Q fk fw tm sg fc fcb hP hh => m_b0 hG D (by omega) hP (bX12_beginOne_38 hG ⟨fun _ => ?_, fun z => by omega⟩), fun o8 D X0 X Q fk fw tm sg fc pp hP hh => m_b0 hG D (by omega) hP (bX12_beginOne_38 hG ⟨fun _ => ?_, fun z => by omega⟩)⟩
  · have b := ps_bk hP
    have t40 : X 234 10 ≠ 40 := fun z => by have := (ps_s b.2.2.2 (10, 40) (by decide)).mp z; omega
    refine ⟨fun _ => m_word hG (c := 42) b.2.2.2 (by decide) cd (fun _ => bX12_beginOne_100 hG ⟨fun z => absurd z (by decide), fun _ => ?_⟩) (fun z => absurd hc z), fun z => absurd z t40⟩
    rw [(ps_a hP).1, (ps_a hP).2.1]
    have h1 : ps_P B n t f X0 (zset X 234 23 (zor wd 16384)) k L st v lv dp (zor wd 16384) gr op 0 fk fw tm sg fc := ps_fld hP (by decide)
    exact ⟨fun z => by omega, fun _ => m_op (d := D + 25) hG hE hk ho ht hf h1 (fun _ X' h2 => bX12_beginOne_130 hG (m54 hG D (hh _ X' h1.2.1 h1.2.2.1 h1.2.2.2 h2))) (fun z => by omega)⟩
  · have b := ps_bk hP
    have t40 : X 234 10 ≠ 40 := fun z => by have := (ps_s b.2.2.2 (10, 40) (by decide)).mp z; omega
    refine ⟨fun _ => m_word hG (c := 42) b.2.2.2 (by decide) cd (fun _ => bX12_beginOne_100 hG ⟨fun z => absurd z (by decide), fun _ => ?_⟩) (fun z => absurd hc z), fun z => absurd z t40⟩
    rw [(ps_a hP).1, (ps_a hP).2.1]
    exact ⟨fun _ => m_op (d := D + 25) hG hE hk ho ht hf hP (fun z => by omega) (fun _ => bX12_beginOne_130 hG (m54c hG D (by decide) (hh X b.1 b.2.1 b.2.2.1))), fun z => by omega⟩
/-- a word of one, or of two -/
theorem m_ow (hG : zP G) (hE : ps_E B n m) (hk : k < m) (ho : 0 ≤ op ∧ op ≤ 8) (ht : 0 ≤ t ∧ t < 4) (hf : 0 ≤ f ∧ f + L ≤ 300) (hc : 36 ≤ lx_c B (lx_j B k) ∧ lx_c B (lx_j B k) ≤ 41) : (lx_c B (lx_j B (k + 1)) = 10 → op < 8 → ps_Lv G B n t f op k L st v lv dp wd gr (k + 2) L st v lv (max dp (op + 1)) (zor wd (zshl 256 (lx_c B (lx_j B k) - 36))) gr (if lx_c B (lx_j B k) < 38 then 2 else 3) (lx_c B (lx_j B k) - 32)) ∧ (lx_c B (lx_j B (k + 1)) = 10 → op = 8 → ps_FL G B n t f op ps_p1 k L st v lv dp wd gr 3 (k + 1)) ∧ (lx_c B (lx_j B (k + 1)) ≠ 10 → ps_FL G B n t f op ps_p1 k L st v lv dp wd gr 1 (k + 1)) := by
  have cd : (26982 : Int) = lx_cd 42 := by decide +kernel
  have o10 : 0 ≤ op ∧ op < 10 := by omega
  have sh : zshl 1 (lx_c B (lx_j B k) - 32 + 4) = zshl 256 (lx_c B (lx_j B k) - 36) := by
    have hcs : lx_c B (lx_j B k) = 36 ∨ lx_c B (lx_j B k) = 37 ∨ lx_c B (lx_j B k) = 38 ∨ lx_c B (lx_j B k) = 39 ∨ lx_c B (lx_j B k) = 40 ∨ lx_c B (lx_j B k) = 41 := by omega
    rcases hcs with e | e | e | e | e | e <;> rw [e] <;> decide +kernel
  -- up to the token behind the word
  have up : ∀ (D : Nat) (X0 X : zM) (Q : zV → zM → Prop) (fk fw tm sg fc : Int), ps_P B n t f X0 X k L st v lv dp wd gr op 0 fk fw tm sg fc → (∀ X', ps_P B n t f X0 X' (k + 1) L st v lv dp (zor wd (zshl 256 (lx_c B (lx_j B k) - 36))) gr op 0 fk fw tm sg fc → Y G (D + 28 + 1) mX12_beginOne 160 [(2, 234), (0, lx_c B (lx_j B k) - 32)] [] X' (fun r M' => Y G (D + 29 + 1) mX12_summed 54 [(2, 234), (9, 0)] (zpush r []) M' Q)) → Y G (D + 30) mX12_summed 36 [(2, 234), (9, 0)] [] X Q := fun D X0 X Q fk fw tm sg fc hP hh => by
    have b := ps_bk hP
    have t40 : X 234 10 ≠ 40 := fun z => by have := (ps_s b.2.2.2 (10, 40) (by decide)).mp z; omega
    refine m_b0 hG D (by omega) hP (bX12_beginOne_38 hG ⟨fun _ => ⟨fun _ => m_word hG (c := 42) b.2.2.2 (by decide) cd (fun z => by omega) (fun _ => bX12_beginOne_100 hG ⟨fun _ => m_wst (d := D + 25) hG b.2.2.2 (fun _ => bX12_beginOne_135 hG ?_) (fun z => absurd hc z), fun z => absurd rfl z⟩), fun z => absurd z t40⟩, fun z => by omega⟩)
    rw [(ps_a hP).2.1, sh]
    have h1 : ps_P B n t f X0 (zset X 234 23 (zor wd (zshl 256 (lx_c B (lx_j B k) - 36)))) k L st v lv dp (zor wd (zshl 256 (lx_c B (lx_j B k) - 36))) gr op 0 fk fw tm sg fc := ps_fld hP (by decide)
    exact ⟨fun _ => ⟨by omega, m_nx (d := D + 27) hG hE hk o10 ht hf h1 (fun X' h2 => hh X' h2)⟩, fun z => by omega⟩
  refine ⟨fun c1 o8 D X0 X Q fk fw tm sg fc fcb hP hh => up D X0 X Q fk fw tm sg fc hP (fun X1 h1 => bX12_beginOne_160 hG ⟨fun _ => ?_, fun z => absurd ((ps_s (ps_bk h1).2.2.2 (10, 40) (by decide)).mpr c1) z⟩), fun c1 o8 D X0 X Q fk fw tm sg fc pp hP hh => up D X0 X Q fk fw tm sg fc hP (fun X1 h1 => bX12_beginOne_160 hG ⟨fun _ => ?_, fun z => absurd ((ps_s (ps_bk h1).2.2.2 (10, 40) (by decide)).mpr c1) z⟩), fun c1 D X0 X Q fk fw tm sg fc pp hP hh => up D X0 X Q fk fw tm sg fc hP (fun X1 h1 => bX12_beginOne_160 hG ⟨fun z => absurd ((ps_s (ps_bk h1).2.2.2 (10, 40) (by decide)).mp z) c1, fun _ => ?_⟩)⟩
  · have km := ps_lt hE (show k + 1 ≤ m by omega) (by omega)
    refine ⟨fun z => ?_, fun z => ?_⟩
    · exact m_op (d := D + 25) hG hE km ho ht hf h1 (fun _ X' h2 => bX12_beginOne_187 hG (m54 hG D (hh _ X' h1.2.1 h1.2.2.1 h1.2.2.2 (by rw [if_neg (by omega)]; exact h2)))) (fun z => by omega)
    · exact m_op (d := D + 25) hG hE km ho ht hf h1 (fun _ X' h2 => bX12_beginOne_187 hG (m54 hG D (hh _ X' h1.2.1 h1.2.2.1 h1.2.2.2 (by rw [if_pos (by omega)]; exact h2)))) (fun z => by omega)
  · have km := ps_lt hE (show k + 1 ≤ m by omega) (by omega)
    have b := ps_bk h1
    exact ⟨fun z => m_op (d := D + 25) hG hE km ho ht hf h1 (fun z => by omega) (fun _ => bX12_beginOne_187 hG (m54c hG D (by decide) (hh X1 b.1 b.2.1 b.2.2.1))), fun z => m_op (d := D + 25) hG hE km ho ht hf h1 (fun z => by omega) (fun _ => bX12_beginOne_187 hG (m54c hG D (by decide) (hh X1 b.1 b.2.1 b.2.2.1)))⟩
  · have b := ps_bk h1
    exact m54c hG D (by decide) (hh X1 b.1 b.2.1 b.2.2.1)
/-- nothing that can begin here -/
theorem m_on (hG : zP G) (hc : lx_c B (lx_j B k) ≠ 2 ∧ ¬ (44 ≤ lx_c B (lx_j B k) ∧ lx_c B (lx_j B k) ≤ 47) ∧ lx_c B (lx_j B k) ≠ 10 ∧ lx_c B (lx_j B k) ≠ 42 ∧ ¬ (36 ≤ lx_c B (lx_j B k) ∧ lx_c B (lx_j B k) ≤ 41)) : ps_FL G B n t f op ps_p1 k L st v lv dp wd gr 1 k := by
  have cd : (26982 : Int) = lx_cd 42 := by decide +kernel
  intro D X0 X Q fk fw tm sg fc pp hP hh
  have b := ps_bk hP
  have t40 : X 234 10 ≠ 40 := fun z => by have := (ps_s b.2.2.2 (10, 40) (by decide)).mp z; omega
  exact m_b0 hG D (by omega) hP (bX12_beginOne_38 hG ⟨fun _ => ⟨fun _ => m_word hG (c := 42) b.2.2.2 (by decide) cd (fun z => by omega) (fun _ => bX12_beginOne_100 hG ⟨fun _ => m_wst (d := D + 25) hG b.2.2.2 (fun z => absurd z hc.2.2.2.2) (fun _ => bX12_beginOne_135 hG ⟨fun z => absurd z (by decide), fun _ => m54c hG D (by decide) (hh X b.1 b.2.1 b.2.2.1)⟩), fun z => absurd rfl z⟩), fun z => absurd z t40⟩, fun z => by omega⟩)
end PSF
