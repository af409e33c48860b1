section PSR
variable {G : zG} {d : Nat} {M M0 X0 X : zM} {Q : zV → zM → Prop} {B : Int → Int} {n t f c s : Int} {m k : Nat} {T : Int → Int}
abbrev ps_z : Int → Int := fun _ => 0
/-- a question in a text -/
theorem ps_mkq {P : zM} {L : Nat} {st v : Int → Int} (hN : ∀ k : Nat, k < L → ps_N (P (189 + 12 * t + 1)) (P (189 + 12 * t + 2)) (P (189 + 12 * t + 3)) (P (189 + 12 * t + 4)) (P (189 + 12 * t + 5)) (P (189 + 12 * t + 7)) st v f k) (h8 : P (189 + 12 * t) 8 = f + L) (f0 : 0 ≤ f) (hL : 1 ≤ L ∧ L ≤ 120) (l3 : f + L ≤ 300) (h1 : (zsp st v L).1 = 1) (hl : zlc st L ≤ 16) (hh : ∀ i : Int, 0 ≤ i → i < L → zhv st v L i ≤ 40) (es : ∀ i : Nat, i < L → P 240 (889 * t + 289 + 2 * (f + i)) = st i ∧ P 240 (889 * t + 289 + 2 * (f + i) + 1) = v i) : zXq P t f L := by
  have E : ∀ i : Nat, i < L → zXs P t f i = st i ∧ zXv P t f i = v i := es
  refine ⟨⟨f0, by omega, by omega, by omega, by omega⟩, ⟨fun k hk => ?_, ?_⟩, ?_, fun i => ?_⟩
  · exact ps_N_c (hN k (by omega)) rfl rfl rfl rfl (fun _ _ _ => ⟨rfl, rfl⟩) (fun i hi => E i (by omega))
  · rw [Int.toNat_natCast, zsp_e L E]; exact h1
  · rw [Int.toNat_natCast, zlc_e L (fun i hi => (E i hi).1)]; exact hl
  · rw [Int.toNat_natCast, zhv_e L E]
    by_cases e : 0 ≤ i ∧ i < L
    · exact hh i e.1 e.2
    · rw [zhv_out L i (by omega)]; decide
/-- the model begins a question -/
theorem m_askb (hG : zP G) (ht : 0 ≤ t ∧ t < 4) (h : ps_ZI B n t f X0 X k c s 0 ps_p) (hh : ∀ Xb, ps_P B n t f X Xb k 0 ps_z ps_z 0 0 0 (-1) 0 0 0 0 0 0 0 → Y G (d + 30) mX12_summed 36 [(2, 234), (9, 0)] [] Xb Q) : Y G (d + 30) mX12_summed 0 [(2, 234), (9, 0)] [] X Q := by
  obtain ⟨⟨hM, hT⟩, ⟨a4, a5, a6⟩, _, _, _⟩ := h
  refine bX12_summed_0 hG (bX12_begin_0 hG ?_)
  have e22 : zset (zset (zset (zset (zset X 234 22 0) 234 23 0) 234 24 0) 234 25 0) 234 26 (-1) 234 22 = 0 := by rw [zr_set (by decide), zr_set (by decide), zr_set (by decide), zr_set (by decide), zset_same]
  have w5 : lx_M B n (zset (zset (zset (zset (zset X 234 22 0) 234 23 0) 234 24 0) 234 25 0) 234 26 (-1)) ∧ ps_T B (zset (zset (zset (zset (zset X 234 22 0) 234 23 0) 234 24 0) 234 25 0) 234 26 (-1)) k := ⟨ps_lM (ps_lM (ps_lM (ps_lM (ps_lM hM (by decide)) (by decide)) (by decide)) (by decide)) (by decide), ps_lT (ps_lT (ps_lT (ps_lT (ps_lT hT (by decide)) (by decide)) (by decide)) (by decide)) (by decide)⟩
  have e14 : zset (zset (zset (zset (zset X 234 22 0) 234 23 0) 234 24 0) 234 25 0) 234 26 (-1) 234 14 = 889 * t := by rw [zr_set (by decide), zr_set (by decide), zr_set (by decide), zr_set (by decide), zr_set (by decide)]; exact a4
  have e15 : zset (zset (zset (zset (zset X 234 22 0) 234 23 0) 234 24 0) 234 25 0) 234 26 (-1) 234 15 = f := by rw [zr_set (by decide), zr_set (by decide), zr_set (by decide), zr_set (by decide), zr_set (by decide)]; exact a5
  have e23 : zset (zset (zset (zset (zset X 234 22 0) 234 23 0) 234 24 0) 234 25 0) 234 26 (-1) 234 23 = 0 := by rw [zr_set (by decide), zr_set (by decide), zr_set (by decide), zset_same]
  have e24 : zset (zset (zset (zset (zset X 234 22 0) 234 23 0) 234 24 0) 234 25 0) 234 26 (-1) 234 24 = 0 := by rw [zr_set (by decide), zr_set (by decide), zset_same]
  have e25 : zset (zset (zset (zset (zset X 234 22 0) 234 23 0) 234 24 0) 234 25 0) 234 26 (-1) 234 25 = 0 := by rw [zr_set (by decide), zset_same]
  have e26 : zset (zset (zset (zset (zset X 234 22 0) 234 23 0) 234 24 0) 234 25 0) 234 26 (-1) 234 26 = -1 := zset_same
  have eF : zfr (ps_G t f) X (zset (zset (zset (zset (zset X 234 22 0) 234 23 0) 234 24 0) 234 25 0) 234 26 (-1)) := zfr_set (zfr_set (zfr_set (zfr_set (zfr_set zfr_rfl (zhit_at 2 rfl (by decide))) (zhit_at 2 rfl (by decide))) (zhit_at 2 rfl (by decide))) (zhit_at 2 rfl (by decide))) (zhit_at 2 rfl (by decide))
  generalize zset (zset (zset (zset (zset X 234 22 0) 234 23 0) 234 24 0) 234 25 0) 234 26 (-1) = W at e22 w5 e14 e15 e23 e24 e25 e26 eF ⊢
  have r0 : ps_P B n t f X W k 0 ps_z ps_z 0 0 0 (-1) 0 (W 234 27) (W 241 0) (W 242 0) (W 243 0) (W 244 0) (W 245 0) := ⟨⟨w5, ⟨e14, by rw [e15]; exact (Int.add_zero f).symm, e22, e23, e24, e25, e26, rfl⟩, fun i hi => absurd hi (Nat.not_lt_zero i)⟩, ⟨rfl, rfl, rfl, rfl, rfl⟩, fun a i _ _ i0 i1 => by omega, eF⟩
  rw [e22]
  have o : (0 : Int) ≤ 0 ∧ (0 : Int) < 10 := by decide
  have g1 : ps_P B n t f X (zset W 241 0 0) k 0 ps_z ps_z 0 0 0 (-1) 0 (W 234 27) 0 (W 242 0) (W 243 0) (W 244 0) (W 245 0) := ps_frm r0 o (by decide)
  have g2 : ps_P B n t f X (zset (zset W 241 0 0) 242 0 0) k 0 ps_z ps_z 0 0 0 (-1) 0 (W 234 27) 0 0 (W 243 0) (W 244 0) (W 245 0) := ps_frm g1 o (by decide)
  refine ⟨o, o, bX12_startSum_0 hG ?_⟩
  rw [(ps_a g2).1]
  have g3 : ps_P B n t f X (zset (zset (zset W 241 0 0) 242 0 0) 243 0 0) k 0 ps_z ps_z 0 0 0 (-1) 0 (W 234 27) 0 0 0 (W 244 0) (W 245 0) := ps_frm g2 o (by decide)
  have g4 : ps_P B n t f X (zset (zset (zset (zset W 241 0 0) 242 0 0) 243 0 0) 244 0 0) k 0 ps_z ps_z 0 0 0 (-1) 0 (W 234 27) 0 0 0 0 (W 245 0) := ps_frm g3 o (by decide)
  have g5 : ps_P B n t f X (zset (zset (zset (zset (zset W 241 0 0) 242 0 0) 243 0 0) 244 0 0) 245 0 0) k 0 ps_z ps_z 0 0 0 (-1) 0 (W 234 27) 0 0 0 0 0 := ps_frm g4 o (by decide)
  have g6 : ps_P B n t f X (zset (zset (zset (zset (zset (zset W 241 0 0) 242 0 0) 243 0 0) 244 0 0) 245 0 0) 234 27 0) k 0 ps_z ps_z 0 0 0 (-1) 0 0 0 0 0 0 0 := ps_fld g5 (by decide)
  exact ⟨o, o, o, bX12_begin_24 hG (bX12_summed_31 hG (hh _ g6))⟩
/-- the model at a question that is a clause -/
theorem m_clA (hG : zP G) (hE : ps_E B n m) (ht : 0 ≤ t ∧ t < 4) (hk : k < m) (hc : 0 ≤ c ∧ c < 24) (hl : lx_c B (lx_j B k) = 20) (D : Nat) (hZ : ps_Z B n t X0 X k c f T) (hh : ∀ X1 Xb, ps_ZI B n t f X1 X1 (k + 1) c 0 0 ps_p → zfr [(234, 8, 13), (234, 16, 17), (240, 889 * t + 12 * c + 1, 889 * t + 12 * c + 13)] X X1 → ps_P B n t f X1 Xb (k + 1) 0 ps_z ps_z 0 0 0 (-1) 0 0 0 0 0 0 0 → Y G (D + 30) mX12_summed 36 [(2, 234), (9, 0)] [] Xb (fun r M' => Y G (D + 30 + 1) mX12_body 52 [(2, 234), (0, 0), (9, 0)] (zpush r []) M' (fun r M' => Y G (D + 31 + 1) mX12_clause 79 [(2, 234), (0, 0), (0, c), (9, 0)] (zpush r []) M' (fun r M' => Y G (D + 32 + 1) mX12_readText 50 [(2, 234), (9, 0)] (zpush r []) M' Q)))) : Y G (D + 33) mX12_readText 39 [(2, 234), (9, 0)] [] X Q := by
  have es : lx_c B (lx_j B k) - 20 = 0 := by omega
  refine m_clp (d := D) hG hE ht (Nat.le_of_lt hk) ⟨hc.1, by omega⟩ (by omega) hZ (fun _ _ X1 h1 f1 => ?_) (fun _ z => by omega) (fun z => absurd (by omega) z)
  rw [es] at h1 ⊢
  exact bX12_body_0 hG ⟨fun _ => m_askb (d := D) hG ht h1 (fun Xb hP => hh X1 Xb h1 f1 hP), fun z => absurd z (by decide), fun z => absurd z (by decide), fun z => absurd z (by decide), fun z => absurd z (by decide), fun z => absurd z (by decide), fun z => absurd z (by decide), fun z => absurd z (by decide), fun z => absurd z (by decide)⟩
variable {k' L' : Nat} {st' v' : Int → Int} {lv' dp' wd' gr' : Int}
/-- the model behind a question -/
theorem m_clQ (hG : zP G) (hE : ps_E B n m) (ht : 0 ≤ t ∧ t < 4) (hk : k < m) (hc : 0 ≤ c ∧ c < 24) (hf : 0 ≤ f) (hfL : f + L' ≤ 300) (k'm : k' ≤ m) (hl : lx_c B (lx_j B k) = 20) (D : Nat) (hZ : ps_Z B n t X0 X k c f T) (R : ps_OS G B n t f 0 (k + 1) 0 ps_z ps_z 0 0 0 (-1) k' L' st' v' lv' dp' wd' gr') (hok : lx_c B (lx_j B k') = 13 → ∀ X3, lx_M B n X3 → ps_T B X3 (k' + 1) → X3 240 (889 * t) = c + 1 → X3 234 14 = 889 * t → X3 234 15 = f + L' → X3 240 (889 * t + 12 * c + 1) = 0 → X3 240 (889 * t + 12 * c + 7) = f → (X3 240 (889 * t + 12 * c + 8) = f + L' ∧ X3 240 (889 * t + 12 * c + 9) = wd' ∧ X3 240 (889 * t + 12 * c + 10) = dp' ∧ X3 240 (889 * t + 12 * c + 11) = lv' ∧ X3 240 (889 * t + 12 * c + 12) = gr') → (∀ i : Nat, i < L' → X3 240 (889 * t + 289 + 2 * (f + i)) = st' i ∧ X3 240 (889 * t + 289 + 2 * (f + i) + 1) = v' i) → (∀ x, 889 * t + 1 ≤ x → x < 889 * t + 12 * c + 1 → X3 240 x = X 240 x) → (∀ x, 889 * t + 289 ≤ x → x < 889 * t + 289 + 2 * f → X3 240 x = X 240 x) → zfr (ps_GG t) X X3 → Y G (D + 33) mX12_readText 39 [(2, 234), (9, 0)] [] X3 Q) (hn : lx_c B (lx_j B k') ≠ 13 → ∀ X3, zfr (ps_GG t) X X3 → X3 234 9 = lx_j B k' → Q (0, 1) X3) : Y G (D + 33) mX12_readText 39 [(2, 234), (9, 0)] [] X Q := by
  have a0 := hZ.2.1.2.2
  refine m_clA hG hE ht hk hc hl D hZ (fun X1 Xb h1 f1 hP => R D X1 Xb _ 0 0 hP (fun X2 tm sg h2 => bX12_behindOne_125 hG ?_))
  have q22 := (ps_a h2).1
  have q41 := (ps_b h2).1
  rw [q22, q41]
  have F1 := ps_gF (f := 0) (zfr_rfl (l := ps_GG t) (M := X)) f1 ht hc (by decide) (Or.inl rfl)
  have F2 := ps_gF F1 h2.2.2.2 ht hc hf (Or.inr (Or.inr (Or.inr rfl)))
  have g0 : ∀ x, 0 ≤ x → x < 889 * t + 289 + 2 * f → X2 240 x = X1 240 x := fun x x0 x1 => h2.2.2.2 240 x (by unfold ps_G zhw zhit; simp; omega)
  have o1 : ∀ x, 0 ≤ x → x < 1000000 → ¬ (889 * t + 12 * c + 1 ≤ x ∧ x < 889 * t + 12 * c + 13) → X1 240 x = X 240 x := fun x x0 x1 hx => f1 240 x (by unfold zhw zhit; simp; omega)
  have e16 : X2 234 16 = 889 * t + 12 * c + 1 := by
    rw [h2.2.2.2 234 16 (by unfold ps_G zhw zhit; simp)]; exact h1.2.1.2.2
  obtain ⟨⟨⟨hM, hT⟩, ⟨a4, a5, b2, b3, b4, b5, b6, b7⟩, hs⟩, _, _, _⟩ := id h2
  refine ⟨by decide, fun z => absurd z (by decide), fun z => absurd z (by decide), fun z => absurd z (by decide), fun z => absurd z (by decide), fun z => absurd z (by decide), fun z => absurd z (by decide), fun z => absurd z (by decide), fun z => absurd z (by decide), fun _ => bX12_summed_47 hG ⟨fun z => absurd rfl z, fun _ => bX12_body_52 hG ?_⟩⟩
  refine m_cls (d := D) hG hE ht k'm hc hM hT a4 e16 (by rw [g0 _ (by omega) (by omega), o1 _ (by omega) (by omega) (by omega)]; exact a0) (fun c13 km' X3 m3 t3 q0 q8 qo f3 => ?_) (fun hne X3 e9 f3 => hn hne X3 (ps_gF F2 f3 ht hc hf (Or.inr (Or.inr (Or.inl rfl)))) e9)
  have z4 : ∀ i, 13 ≤ i → i < 1000 → X3 234 i = X2 234 i := fun i i0 i1 => f3 234 i (by unfold zhw zhit; simp; omega)
  rw [a5, b3, b4, b5, b6] at q8
  refine hok c13 X3 m3 t3 q0 (by rw [z4 14 (by decide) (by decide)]; exact a4) (by rw [z4 15 (by decide) (by decide)]; exact a5) ?_ ?_ q8 (fun i hi => ?_) (fun x x0 x1 => ?_) (fun x x0 x1 => ?_) (ps_gF F2 f3 ht hc hf (Or.inr (Or.inr (Or.inl rfl))))
  · rw [qo _ (by omega) (by omega) (by omega) (by omega), g0 _ (by omega) (by omega)]; exact h1.2.2.1.1
  · rw [qo _ (by omega) (by omega) (by omega) (by omega), g0 _ (by omega) (by omega)]; exact h1.2.2.1.2
  · rw [qo _ (by omega) (by omega) (by omega) (by omega), qo _ (by omega) (by omega) (by omega) (by omega)]
    exact hs i hi
  · rw [qo _ (by omega) (by omega) (by omega) (by omega), g0 _ (by omega) (by omega)]; exact o1 _ (by omega) (by omega) (by omega)
  · rw [qo _ (by omega) (by omega) (by omega) (by omega), g0 _ (by omega) (by omega)]; exact o1 _ (by omega) (by omega) (by omega)
theorem m_clX (hG : zP G) (hE : ps_E B n m) (ht : 0 ≤ t ∧ t < 4) (hk : k < m) (hc : 0 ≤ c ∧ c < 24) (hf : 0 ≤ f) {e : Int} (he : 1 ≤ e ∧ e ≤ 4) (hl : lx_c B (lx_j B k) = 20) (FL : ps_FL G B n t f 0 ps_p0 (k + 1) 0 ps_z ps_z 0 0 0 (-1) e k') : ps_CF G B n t k c f T e k' := fun D X0 X Q hZ hh => by
  refine m_clA hG hE ht hk hc hl D hZ (fun X1 Xb h1 f1 hP => FL D X1 Xb _ 0 0 0 0 0 ⟨rfl, rfl, rfl⟩ hP (fun X2 f2 m2 e9 => bX12_body_52 hG (bX12_clause_79 hG ⟨fun w => by omega, fun _ => bX12_readText_50 hG ⟨fun w => by omega, fun _ => hh X2 (zfr_trans hZ.2.2.2.2 ?_) e9⟩⟩)))
  exact ps_gF (ps_gF (f := 0) (zfr_rfl (l := ps_GG t) (M := X)) f1 ht hc (by decide) (Or.inl rfl)) f2 ht hc hf (Or.inr (Or.inr (Or.inr rfl)))
end PSR
