section PSG
variable {G : zG} {d : Nat} {M M0 X0 X : zM} {Q : zV → zM → Prop} {B : Int → Int} {n t f op : Int} {m k L : Nat} {st v : Int → Int} {lv dp wd gr wh fk fw tm sg fc : Int} {k1 L1 k2 L2 : Nat} {st1 v1 st2 v2 : Int → Int} {lv1 dp1 wd1 gr1 lv2 dp2 wd2 gr2 kd w : Int}
/-- the comparison that a token names -/
def ps_cm (c : Int) : Int := if c = 3 then 0 else if c = 4 then 2 else if c = 5 then 4 else if c = 6 then 5 else if c = 16 then 1 else if c = 17 then 3 else -1
theorem ps_cm_b {c : Int} (h : ps_cm c ≠ -1) : 0 ≤ ps_cm c ∧ ps_cm c ≤ 5 ∧ c ≠ 0 := by
  unfold ps_cm at *
  repeat' split at *
  all_goals omega
theorem s_cmpo (hG : zP G) {c : Int} (h : Q (0, ps_cm c) M) : Y G d mX4_comparisonOf 0 [(0, c)] [] M Q := by
  refine bX4_comparisonOf_0 hG ?_
  unfold ps_cm at h
  refine ⟨fun z => ?_, fun z => ?_, fun z => ?_, fun z => ?_, fun z => ?_, fun z => ?_, fun z => ?_⟩
  · rw [if_pos z] at h; exact h
  · rw [if_neg (by omega), if_pos z] at h; exact h
  · rw [if_neg (by omega), if_neg (by omega), if_pos z] at h; exact h
  · rw [if_neg (by omega), if_neg (by omega), if_neg (by omega), if_pos z] at h; exact h
  · rw [if_neg (by omega), if_neg (by omega), if_neg (by omega), if_neg (by omega), if_pos z] at h; exact h
  · rw [if_neg (by omega), if_neg (by omega), if_neg (by omega), if_neg (by omega), if_neg (by omega), if_pos z] at h; exact h
  · rw [if_neg (by omega), if_neg (by omega), if_neg (by omega), if_neg (by omega), if_neg (by omega), if_neg (by omega)] at h; exact h
theorem m_cmp (hG : zP G) (hT : ps_T B X k) (h : Q (0, ps_cm (lx_c B (lx_j B k))) X) : Y G d mX12_compareAt 0 [(2, 234)] [] X Q := by
  have a3 := ps_s hT (3, 60) (by decide)
  have a4 := ps_s hT (4, 62) (by decide)
  have a5 := ps_s hT (5, 61) (by decide)
  have a6 := ps_s hT (6, 35) (by decide)
  have a16 := ps_s hT (16, 4) (by decide)
  have a17 := ps_s hT (17, 5) (by decide)
  refine bX12_compareAt_0 hG ?_
  unfold ps_cm at h
  refine ⟨fun z => ?_, fun z => ?_, fun z => ?_, fun z => ?_, fun z => ?_, fun z => ⟨fun z2 => ?_, fun z2 => ?_⟩⟩
  · have e := a16.mp z
    rw [show lx_c B (lx_j B k) = 16 from e] at h; exact h
  · have e := a17.mp z
    rw [show lx_c B (lx_j B k) = 17 from e] at h; exact h
  · have e := a3.mp z
    rw [show lx_c B (lx_j B k) = 3 from e] at h; exact h
  · have e := a5.mp z
    rw [show lx_c B (lx_j B k) = 5 from e] at h; exact h
  · have e := a4.mp z
    rw [show lx_c B (lx_j B k) = 4 from e] at h; exact h
  · rw [if_neg (fun e => z.2.2.1 (a3.mpr e)), if_neg (fun e => z.2.2.2.2 (a4.mpr e)), if_neg (fun e => z.2.2.2.1 (a5.mpr e)), if_neg (fun e => z2 (a6.mpr e)), if_neg (fun e => z.1 (a16.mpr e)), if_neg (fun e => z.2.1 (a17.mpr e))] at h
    exact h
  · have e := a6.mp z2
    rw [show lx_c B (lx_j B k) = 6 from e] at h; exact h
/-- it goes on with one more sum, or stops -/
theorem ps_Be_go (hG : zP G) (hE : ps_E B n m) (hk : k1 ≤ m) (ho : 0 ≤ op ∧ op ≤ 8) (ht : 0 ≤ t ∧ t < 4) (hf : 0 ≤ f ∧ f + L1 ≤ 300) {c : Int} (hkc : (kd = 3 ∧ c = 12) ∨ (kd = 6 ∧ c = 14) ∨ (kd = 7 ∧ c = 15)) (h : ps_Be G B n t f op k L st v lv dp wd gr k1 L1 st1 v1 lv1 dp1 wd1 gr1 kd w) : (lx_c B (lx_j B k1) = c → ps_Lv G B n t f op k L st v lv dp wd gr (k1 + 1) L1 st1 v1 lv1 dp1 wd1 gr1 (kd + 1) w) ∧ (lx_c B (lx_j B k1) ≠ c → ps_FL G B n t f op ps_p1 k L st v lv dp wd gr 1 k1) := by
  have o9 : 0 ≤ op + 1 ∧ op + 1 < 10 := by omega
  refine ⟨fun hc D X0 X Q fk fw tm sg fc fcb hP hh => h D X0 X Q fk fw tm sg fc fcb hP (fun X1 X2 tm1 sg1 a1 a2 a3 h2 => ?_), fun hc D X0 X Q fk fw tm sg fc pp hP hh => h D X0 X Q fk fw tm sg fc pp.1 hP (fun X1 X2 tm1 sg1 a1 a2 a3 h2 => ?_)⟩
  · have km := ps_lt hE hk (by omega)
    have b := ps_bk h2
    have q22 := (ps_a h2).1
    have q41 := (ps_b h2).1
    have hT := b.2.2.2
    refine bX12_behindOne_125 hG ?_
    rw [q22, q41]
    rcases hkc with ⟨e, ec⟩ | ⟨e, ec⟩ | ⟨e, ec⟩
    · subst e; subst ec
      exact ⟨o9, fun z => absurd z (by decide), fun z => absurd z (by decide), fun _ => ⟨fun z => absurd ((ps_s hT (12, 44) (by decide)).mpr hc) z, fun _ => m_go (d := D + 26) hG hE km o9 ht hf h2 (fun _ X3 h3 => bX12_behindOne_249 hG (m47 hG D (hh X1 X3 a1 a2 a3 h3))) (fun z => absurd z (by decide))⟩, fun z => absurd z (by decide), fun z => absurd z (by decide), fun z => absurd z (by decide), fun z => absurd z (by decide), fun z => absurd z (by decide), fun z => absurd z (by decide)⟩
    · subst e; subst ec
      exact ⟨o9, fun z => absurd z (by decide), fun z => absurd z (by decide), fun z => absurd z (by decide), fun z => absurd z (by decide), fun z => absurd z (by decide), fun _ => ⟨fun z => absurd ((ps_s hT (14, 63) (by decide)).mpr hc) z, fun _ => m_go (d := D + 26) hG hE km o9 ht hf h2 (fun _ X3 h3 => bX12_behindOne_331 hG (m47 hG D (hh X1 X3 a1 a2 a3 h3))) (fun z => absurd z (by decide))⟩, fun z => absurd z (by decide), fun z => absurd z (by decide), fun z => absurd z (by decide)⟩
    · subst e; subst ec
      exact ⟨o9, fun z => absurd z (by decide), fun z => absurd z (by decide), fun z => absurd z (by decide), fun z => absurd z (by decide), fun z => absurd z (by decide), fun z => absurd z (by decide), fun _ => ⟨fun z => absurd ((ps_s hT (15, 58) (by decide)).mpr hc) z, fun _ => m_go (d := D + 26) hG hE km o9 ht hf h2 (fun _ X3 h3 => bX12_behindOne_352 hG (m47 hG D (hh X1 X3 a1 a2 a3 h3))) (fun z => absurd z (by decide))⟩, fun z => absurd z (by decide), fun z => absurd z (by decide)⟩
  · have b := ps_bk h2
    have q22 := (ps_a h2).1
    have q41 := (ps_b h2).1
    have hT := b.2.2.2
    have fin := hh X2 (zfr_trans a3 b.1) b.2.1 b.2.2.1
    have g0 : ∀ {s : Int} {Q' : zV → zM → Prop}, Q' (0, 1) X2 → Y G (D + 28) mX12_goesOn 0 [(2, 234), (0, 0), (0, s)] [] X2 Q' := fun {s Q'} hq => bX12_goesOn_0 hG ⟨fun z => absurd rfl z, fun _ => hq⟩
    refine bX12_behindOne_125 hG ?_
    rw [q22, q41]
    rcases hkc with ⟨e, ec⟩ | ⟨e, ec⟩ | ⟨e, ec⟩
    · subst e; subst ec
      exact ⟨o9, fun z => absurd z (by decide), fun z => absurd z (by decide), fun _ => ⟨fun _ => g0 (bX12_behindOne_249 hG (m47c hG D (by decide) fin)), fun z => absurd ((ps_s hT (12, 44) (by decide)).mp z) hc⟩, fun z => absurd z (by decide), fun z => absurd z (by decide), fun z => absurd z (by decide), fun z => absurd z (by decide), fun z => absurd z (by decide), fun z => absurd z (by decide)⟩
    · subst e; subst ec
      exact ⟨o9, fun z => absurd z (by decide), fun z => absurd z (by decide), fun z => absurd z (by decide), fun z => absurd z (by decide), fun z => absurd z (by decide), fun _ => ⟨fun _ => g0 (bX12_behindOne_331 hG (m47c hG D (by decide) fin)), fun z => absurd ((ps_s hT (14, 63) (by decide)).mp z) hc⟩, fun z => absurd z (by decide), fun z => absurd z (by decide), fun z => absurd z (by decide)⟩
    · subst e; subst ec
      exact ⟨o9, fun z => absurd z (by decide), fun z => absurd z (by decide), fun z => absurd z (by decide), fun z => absurd z (by decide), fun z => absurd z (by decide), fun z => absurd z (by decide), fun _ => ⟨fun _ => g0 (bX12_behindOne_352 hG (m47c hG D (by decide) fin)), fun z => absurd ((ps_s hT (15, 58) (by decide)).mp z) hc⟩, fun z => absurd z (by decide), fun z => absurd z (by decide)⟩
/-- a comparison stands here, or not -/
theorem ps_Be_5 (hG : zP G) (hE : ps_E B n m) (hk : k1 ≤ m) (ho : 0 ≤ op ∧ op ≤ 8) (ht : 0 ≤ t ∧ t < 4) (hf : 0 ≤ f ∧ f + L1 ≤ 300) (h : ps_Be G B n t f op k L st v lv dp wd gr k1 L1 st1 v1 lv1 dp1 wd1 gr1 5 w) : (ps_cm (lx_c B (lx_j B k1)) ≠ -1 → ps_Lv G B n t f op k L st v lv dp wd gr (k1 + 1) L1 st1 v1 lv1 dp1 wd1 gr1 6 (ps_cm (lx_c B (lx_j B k1)))) ∧ (ps_cm (lx_c B (lx_j B k1)) = -1 → ps_FL G B n t f op ps_p1 k L st v lv dp wd gr 1 k1) := by
  have o9 : 0 ≤ op + 1 ∧ op + 1 < 10 := by omega
  -- both come to the second look at the token
  have up : ∀ (D : Nat) (X1 X2 : zM) (tm1 sg1 : Int) (Q' : zV → zM → Prop), ps_P B n t f X1 X2 k1 L1 st1 v1 lv1 dp1 wd1 gr1 (op + 1) 1 5 w tm1 sg1 0 → (∀ X3, ps_P B n t f X1 X3 k1 L1 st1 v1 lv1 dp1 wd1 gr1 (op + 1) 1 5 (ps_cm (lx_c B (lx_j B k1))) tm1 sg1 0 → Y G (D + 28 + 1) mX12_behindOne 297 [(2, 234)] [(0, ps_cm (lx_c B (lx_j B k1))), (2, 234)] X3 Q') → Y G (D + 28 + 1) mX12_behindOne 125 [(2, 234)] [] X2 Q' := fun D X1 X2 tm1 sg1 Q' h2 hh => by
    have b := ps_bk h2
    have q22 := (ps_a h2).1
    have q41 := (ps_b h2).1
    refine bX12_behindOne_125 hG ?_
    rw [q22, q41]
    refine ⟨o9, fun z => absurd z (by decide), fun z => absurd z (by decide), fun z => absurd z (by decide), fun z => absurd z (by decide), fun _ => m_cmp hG b.2.2.2 (bX12_behindOne_291 hG ⟨o9, ?_⟩), fun z => absurd z (by decide), fun z => absurd z (by decide), fun z => absurd z (by decide), fun z => absurd z (by decide)⟩
    have h3 : ps_P B n t f X1 (zset X2 242 (op + 1) (ps_cm (lx_c B (lx_j B k1)))) k1 L1 st1 v1 lv1 dp1 wd1 gr1 (op + 1) 1 5 (ps_cm (lx_c B (lx_j B k1))) tm1 sg1 0 := ps_frm h2 o9 (by decide)
    exact m_cmp hG (ps_bk h3).2.2.2 (hh _ h3)
  refine ⟨fun hc D X0 X Q fk fw tm sg fc fcb hP hh => h D X0 X Q fk fw tm sg fc fcb hP (fun X1 X2 tm1 sg1 a1 a2 a3 h2 => up D X1 X2 tm1 sg1 _ h2 (fun X3 h3 => bX12_behindOne_297 hG ?_)), fun hc D X0 X Q fk fw tm sg fc pp hP hh => h D X0 X Q fk fw tm sg fc pp.1 hP (fun X1 X2 tm1 sg1 a1 a2 a3 h2 => up D X1 X2 tm1 sg1 _ h2 (fun X3 h3 => bX12_behindOne_297 hG ?_))⟩
  · have cb := ps_cm_b hc
    have km := ps_lt hE hk cb.2.2
    exact ⟨fun z => by omega, fun _ => m_go (d := D + 26) hG hE km o9 ht hf h3 (fun _ X4 h4 => bX12_behindOne_310 hG (m47 hG D (hh X1 X4 a1 a2 a3 h4))) (fun z => absurd z (by decide))⟩
  · have b := ps_bk h3
    exact ⟨fun z => bX12_goesOn_0 hG ⟨fun z => absurd rfl z, fun _ => bX12_behindOne_310 hG (m47c hG D (by decide) (hh X3 (zfr_trans a3 b.1) b.2.1 b.2.2.1))⟩, fun z => by omega⟩
/-- what was opened is closed -/
theorem ps_Be_cl (hG : zP G) (hE : ps_E B n m) (hk : k1 ≤ m) (ho : 0 ≤ op ∧ op ≤ 7) (ht : 0 ≤ t ∧ t < 4) (hf : 0 ≤ f ∧ f + L1 < 300) (hkd : kd = 1 ∨ ((kd = 2 ∨ kd = 4) ∧ 0 ≤ w)) (h : ps_Be G B n t f op k L st v lv dp wd gr k1 L1 st1 v1 lv1 dp1 wd1 gr1 kd w) : (lx_c B (lx_j B k1) = 11 → (kd = 1 → ps_O1 G B n t f op k L st v lv dp wd gr (k1 + 1) L1 st1 v1 lv1 dp1 wd1 gr1) ∧ (kd ≠ 1 → ps_O1 G B n t f op k L st v lv dp wd gr (k1 + 1) (L1 + 1) (zup st1 L1 w) (zup v1 L1 0) lv1 dp1 wd1 gr1)) ∧ (lx_c B (lx_j B k1) ≠ 11 → ps_FL G B n t f op ps_p1 k L st v lv dp wd gr 1 k1) := by
  have o9 : 0 ≤ op + 1 ∧ op + 1 < 10 := by omega
  have o8 : 0 ≤ op ∧ op < 9 := by omega
  refine ⟨fun hc => ⟨fun hk1 D X0 X Q fk fw tm sg fc fcb hP hh => h D X0 X Q fk fw tm sg fc fcb hP (fun X1 X2 tm1 sg1 a1 a2 a3 h2 => ?_), fun hk1 D X0 X Q fk fw tm sg fc fcb hP hh => h D X0 X Q fk fw tm sg fc fcb hP (fun X1 X2 tm1 sg1 a1 a2 a3 h2 => ?_)⟩, fun hc D X0 X Q fk fw tm sg fc pp hP hh => h D X0 X Q fk fw tm sg fc pp.1 hP (fun X1 X2 tm1 sg1 a1 a2 a3 h2 => ?_)⟩
  · have km := ps_lt hE hk (by omega)
    have b := ps_bk h2
    have q22 := (ps_a h2).1
    have q41 := (ps_b h2).1
    have t41 := (ps_s b.2.2.2 (11, 41) (by decide)).mpr hc
    subst hk1
    refine bX12_behindOne_125 hG ?_
    rw [q22, q41]
    exact ⟨o9, fun _ => ⟨fun z => absurd t41 z, fun _ => m_cl (d := D + 26) hG hE km o8 ht ⟨hf.1, by omega, fun z => absurd z (by decide)⟩ a1 ⟨fcb.1, by omega⟩ a2 a3 h2 (fun _ _ X3 h3 => bX12_behindOne_200 hG (m47 hG D (hh X3 h3))) (fun _ z => absurd z (by decide)) (fun z => absurd z (by decide))⟩, fun z => absurd z (by decide), fun z => absurd z (by decide), fun z => absurd z (by decide), fun z => absurd z (by decide), fun z => absurd z (by decide), fun z => absurd z (by decide), fun z => absurd z (by decide), fun z => absurd z (by decide)⟩
  · have km := ps_lt hE hk (by omega)
    have b := ps_bk h2
    have q22 := (ps_a h2).1
    have q41 := (ps_b h2).1
    have q42 := (ps_b h2).2.1
    have t41 := (ps_s b.2.2.2 (11, 41) (by decide)).mpr hc
    refine bX12_behindOne_125 hG ?_
    rw [q22, q41, q42]
    rcases hkd with e | ⟨e | e, w0⟩
    · exact absurd e hk1
    · subst e
      exact ⟨o9, fun z => absurd z (by decide), fun _ => ⟨fun z => absurd t41 z, fun _ => ⟨o9, m_cl (d := D + 26) hG hE km o8 ht ⟨hf.1, by omega, fun _ => hf.2⟩ a1 ⟨fcb.1, by omega⟩ a2 a3 h2 (fun _ z => by omega) (fun _ _ X3 h3 => bX12_behindOne_229 hG (m47 hG D (hh X3 h3))) (fun z => absurd z (by decide))⟩⟩, fun z => absurd z (by decide), fun z => absurd z (by decide), fun z => absurd z (by decide), fun z => absurd z (by decide), fun z => absurd z (by decide), fun z => absurd z (by decide), fun z => absurd z (by decide)⟩
    · subst e
      exact ⟨o9, fun z => absurd z (by decide), fun z => absurd z (by decide), fun z => absurd z (by decide), fun _ => ⟨fun z => absurd t41 z, fun _ => ⟨o9, m_cl (d := D + 26) hG hE km o8 ht ⟨hf.1, by omega, fun _ => hf.2⟩ a1 ⟨fcb.1, by omega⟩ a2 a3 h2 (fun _ z => by omega) (fun _ _ X3 h3 => bX12_behindOne_278 hG (m47 hG D (hh X3 h3))) (fun z => absurd z (by decide))⟩⟩, fun z => absurd z (by decide), fun z => absurd z (by decide), fun z => absurd z (by decide), fun z => absurd z (by decide), fun z => absurd z (by decide)⟩
  · have b := ps_bk h2
    have q22 := (ps_a h2).1
    have q41 := (ps_b h2).1
    have fin := hh X2 (zfr_trans a3 b.1) b.2.1 b.2.2.1
    have t41 : X2 234 10 ≠ 41 := fun z => hc ((ps_s b.2.2.2 (11, 41) (by decide)).mp z)
    have c0 : ∀ {s u : Int} {Q' : zV → zM → Prop}, Q' (0, 1) X2 → Y G (D + 28) mX12_closed 0 [(2, 234), (0, 0), (0, s), (0, u)] [] X2 Q' := fun {s u Q'} hq => bX12_closed_0 hG ⟨fun z => absurd rfl z, fun _ => hq⟩
    refine bX12_behindOne_125 hG ?_
    rw [q22, q41]
    rcases hkd with e | ⟨e | e, w0⟩
    · subst e
      exact ⟨o9, fun _ => ⟨fun _ => c0 (bX12_behindOne_200 hG (m47c hG D (by decide) fin)), fun z => absurd z t41⟩, fun z => absurd z (by decide), fun z => absurd z (by decide), fun z => absurd z (by decide), fun z => absurd z (by decide), fun z => absurd z (by decide), fun z => absurd z (by decide), fun z => absurd z (by decide), fun z => absurd z (by decide)⟩
    · subst e
      exact ⟨o9, fun z => absurd z (by decide), fun _ => ⟨fun _ => ⟨o9, c0 (bX12_behindOne_229 hG (m47c hG D (by decide) fin))⟩, fun z => absurd z t41⟩, fun z => absurd z (by decide), fun z => absurd z (by decide), fun z => absurd z (by decide), fun z => absurd z (by decide), fun z => absurd z (by decide), fun z => absurd z (by decide), fun z => absurd z (by decide)⟩
    · subst e
      exact ⟨o9, fun z => absurd z (by decide), fun z => absurd z (by decide), fun z => absurd z (by decide), fun _ => ⟨fun _ => ⟨o9, c0 (bX12_behindOne_278 hG (m47c hG D (by decide) fin))⟩, fun z => absurd z t41⟩, fun z => absurd z (by decide), fun z => absurd z (by decide), fun z => absurd z (by decide), fun z => absurd z (by decide), fun z => absurd z (by decide)⟩
/-- the last word of a choice -/
theorem ps_Be_8 (hG : zP G) (hE : ps_E B n m) (hk : k1 ≤ m) (ho : 0 ≤ op ∧ op ≤ 7) (ht : 0 ≤ t ∧ t < 4) (hf : 0 ≤ f ∧ f + L1 < 300) (h : ps_Be G B n t f op k L st v lv dp wd gr k1 L1 st1 v1 lv1 dp1 wd1 gr1 8 w) : (lx_c B (lx_j B k1) = 43 → ps_O1 G B n t f op k L st v lv dp wd gr (k1 + 1) (L1 + 1) (zup st1 L1 10) (zup v1 L1 w) lv1 dp1 wd1 gr1) ∧ (lx_c B (lx_j B k1) ≠ 43 → ps_FL G B n t f op ps_p1 k L st v lv dp wd gr 1 k1) := by
  have o9 : 0 ≤ op + 1 ∧ op + 1 < 10 := by omega
  have o8 : 0 ≤ op ∧ op < 9 := by omega
  have up : ∀ (D : Nat) (X1 X2 : zM) (tm1 sg1 : Int) (Q' : zV → zM → Prop), ps_P B n t f X1 X2 k1 L1 st1 v1 lv1 dp1 wd1 gr1 (op + 1) 1 8 w tm1 sg1 0 → (lx_c B (lx_j B k1) = 43 → Y G (D + 28) mX12_closed 0 [(2, 234), (0, 1), (0, 10), (0, w)] [] X2 (fun r M' => Y G (D + 28 + 1) mX12_behindOne 381 [(2, 234)] (zpush r []) M' Q')) → (lx_c B (lx_j B k1) ≠ 43 → Q' (0, 1) X2) → Y G (D + 28 + 1) mX12_behindOne 125 [(2, 234)] [] X2 Q' := fun D X1 X2 tm1 sg1 Q' h2 g1 g0 => by
    have b := ps_bk h2
    have q22 := (ps_a h2).1
    have q41 := (ps_b h2).1
    have q42 := (ps_b h2).2.1
    refine bX12_behindOne_125 hG ?_
    rw [q22, q41]
    refine ⟨o9, fun z => absurd z (by decide), fun z => absurd z (by decide), fun z => absurd z (by decide), fun z => absurd z (by decide), fun z => absurd z (by decide), fun z => absurd z (by decide), fun z => absurd z (by decide), fun _ => bX12_w3_0 hG (bX12_behindOne_364 hG (m_word hG (c := 43) b.2.2.2 (by decide) (by decide +kernel) (fun z => bX12_behindOne_367 hG ?_) (fun z => bX12_behindOne_367 hG ?_))), fun z => absurd z (by decide)⟩
    · rw [q22, q42]; exact ⟨o9, g1 z⟩
    · rw [q22]; exact ⟨o9, bX12_closed_0 hG ⟨fun y => absurd rfl y, fun _ => bX12_behindOne_381 hG (g0 z)⟩⟩
  refine ⟨fun hc D X0 X Q fk fw tm sg fc fcb hP hh => h D X0 X Q fk fw tm sg fc fcb hP (fun X1 X2 tm1 sg1 a1 a2 a3 h2 => up D X1 X2 tm1 sg1 _ h2 (fun _ => ?_) (fun z => absurd hc z)), fun hc D X0 X Q fk fw tm sg fc pp hP hh => h D X0 X Q fk fw tm sg fc pp.1 hP (fun X1 X2 tm1 sg1 a1 a2 a3 h2 => up D X1 X2 tm1 sg1 _ h2 (fun z => absurd z hc) (fun _ => ?_))⟩
  · have km := ps_lt hE hk (by omega)
    exact m_cl (d := D + 26) hG hE km o8 ht ⟨hf.1, by omega, fun _ => hf.2⟩ a1 ⟨fcb.1, by omega⟩ a2 a3 h2 (fun _ z => absurd z (by decide)) (fun _ _ X3 h3 => bX12_behindOne_381 hG (m47 hG D (hh X3 h3))) (fun z => absurd z (by decide))
  · have b := ps_bk h2
    exact m47c hG D (by decide) (hh X2 (zfr_trans a3 b.1) b.2.1 b.2.2.1)
end PSG
