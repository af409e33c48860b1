section PSQ
variable {G : zG} {d : Nat} {M M0 X0 X : zM} {Q : zV → zM → Prop} {B : Int → Int} {n t f c s : Int} {m k : Nat} {T : Int → Int}
theorem ps_inj {a b : Int} {k1 k2 : Nat} {g1 g2 : Int} {p1 p2 : Int → Int} (h : ((a, k1, g1, p1) : Int × Nat × Int × (Int → Int)) = (b, k2, g2, p2)) : a = b ∧ k1 = k2 ∧ g1 = g2 ∧ p1 = p2 := ⟨congrArg (fun z => z.1) h, congrArg (fun z => z.2.1) h, congrArg (fun z => z.2.2.1) h, congrArg (fun z => z.2.2.2) h⟩
/-- what a clause that is no question comes to in the model -/
theorem m_clN (hG : zP G) (hE : ps_E B n m) (ht : 0 ≤ t ∧ t < 4) (hk : k < m) (hc : 0 ≤ c ∧ c < 24) (hf : 0 ≤ f) (hs : 1 ≤ s ∧ s ≤ 8) (hl : lx_c B (lx_j B k) = 20 + s) (D : Nat) (hZ : ps_Z B n t X0 X k c f T) (hok : ∀ k' g' p', ps_bd B s (k + 1) = (0, k', g', p') → k' ≤ m → lx_c B (lx_j B k') = 13 → k' < m → ∀ X3, lx_M B n X3 → ps_T B X3 (k' + 1) → X3 240 (889 * t) = c + 1 → X3 234 14 = 889 * t → X3 234 15 = f → X3 240 (889 * t + 12 * c + 1) = s → (∀ j, 0 ≤ j → j < g' → j < 5 → X3 240 (889 * t + 12 * c + 2 + j) = p' j) → (∀ x, 889 * t + 1 ≤ x → x < 889 * t + 12 * c + 1 → X3 240 x = X 240 x) → (∀ x, 889 * t + 289 ≤ x → x < 889 * t + 889 → X3 240 x = X 240 x) → zfr (ps_GG t) X X3 → Y G (D + 33) mX12_readText 39 [(2, 234), (9, 0)] [] X3 Q) (hfl : ∀ e k' g' p', (ps_bd B s (k + 1) = (e, k', g', p') ∧ (1 ≤ e ∧ e ≤ 2)) ∨ (ps_bd B s (k + 1) = (0, k', g', p') ∧ lx_c B (lx_j B k') ≠ 13 ∧ e = 1) → ∀ X3, zfr (ps_GG t) X X3 → X3 234 9 = lx_j B k' → Q (0, e) X3) : Y G (D + 33) mX12_readText 39 [(2, 234), (9, 0)] [] X Q := by
  have es : lx_c B (lx_j B k) - 20 = s := by omega
  have a0 := hZ.2.1.2.2
  refine m_clp (d := D) hG hE ht (Nat.le_of_lt hk) ⟨hc.1, by omega⟩ (by omega) hZ (fun _ _ X1 h1 f1 => ?_) (fun _ z => by omega) (fun z => absurd (by omega) z)
  rw [es] at h1 ⊢
  have F1 := ps_gF (f := 0) (zfr_rfl (l := ps_GG t) (M := X)) f1 ht hc (by decide) (Or.inl rfl)
  have o1 : ∀ x, 0 ≤ x → x < 1000000 → ¬ (889 * t + 12 * c + 1 ≤ x ∧ x < 889 * t + 12 * c + 13) → X1 240 x = X 240 x := fun x x0 x1 hx => f1 240 x (by unfold zhw zhit; simp; omega)
  have hI2 : ∀ {X2 : zM}, zfr (ps_GI t c) X1 X2 → ∀ x, 0 ≤ x → x < 1000000 → ¬ (889 * t + 12 * c + 1 ≤ x ∧ x < 889 * t + 12 * c + 13) → X2 240 x = X 240 x := fun {X2} f2 x x0 x1 hx => by
    rw [f2 240 x (by unfold ps_GI zhw zhit; simp; omega)]; exact o1 x x0 x1 hx
  refine m_body (d := D + 23) hG hE ht hc hs (by omega) h1 (fun X2 k' g' p' hb k'm h2 => ?_) (fun X2 e k' g' p' hb he h2 => bX12_clause_79 hG ⟨fun w => by omega, fun _ => bX12_readText_50 hG ⟨fun w => by omega, fun _ => hfl e k' g' p' (Or.inl ⟨hb, he⟩) X2 (ps_gF F1 h2.2.2.2.2 ht hc (Int.le_refl 0) (Or.inr (Or.inl rfl))) h2.1.2.2.1⟩⟩) (fun X2 k' g' p' hb hn h2 => bX12_clause_79 hG ⟨fun w => absurd w (by decide), fun _ => bX12_readText_50 hG ⟨fun w => absurd w (by decide), fun _ => hfl 1 k' g' p' (Or.inr ⟨hb, hn, rfl⟩) X2 (ps_gF F1 h2.2.2.2.2 ht hc (Int.le_refl 0) (Or.inr (Or.inl rfl))) h2.1.2.2.1⟩⟩)
  have F2 := ps_gF F1 h2.2.2.2.2 ht hc (Int.le_refl 0) (Or.inr (Or.inl rfl))
  have i2 := hI2 h2.2.2.2.2
  refine m_cls (d := D) hG hE ht k'm hc h2.1.1 h2.1.2 h2.2.1.1 h2.2.1.2.2 (by rw [i2 _ (by omega) (by omega) (by omega)]; exact a0) (fun c13 km' X3 m3 t3 q0 _ qo f3 => ?_) (fun hn X3 e9 f3 => hfl 1 k' g' p' (Or.inr ⟨hb, hn, rfl⟩) X3 (ps_gF F2 f3 ht hc (Int.le_refl 0) (Or.inr (Or.inr (Or.inl rfl)))) e9)
  have z4 : ∀ i, 13 ≤ i → i < 1000 → X3 234 i = X2 234 i := fun i i0 i1 => f3 234 i (by unfold zhw zhit; simp; omega)
  refine hok k' g' p' hb k'm c13 km' X3 m3 t3 q0 (by rw [z4 14 (by decide) (by decide)]; exact h2.2.1.1) (by rw [z4 15 (by decide) (by decide)]; exact h2.2.1.2.1) ?_ (fun j j0 j1 j5 => ?_) (fun x x0 x1 => ?_) (fun x x0 x1 => ?_) (ps_gF F2 f3 ht hc (Int.le_refl 0) (Or.inr (Or.inr (Or.inl rfl))))
  · rw [qo _ (by omega) (by omega) (by omega) (by omega)]; exact h2.2.2.1.1
  · rw [qo _ (by omega) (by omega) (by omega) (by omega)]; exact h2.2.2.2.1 j j0 j1
  · rw [qo _ (by omega) (by omega) (by omega) (by omega)]; exact i2 x (by omega) (by omega) (by omega)
  · rw [qo _ (by omega) (by omega) (by omega) (by omega)]; exact i2 x (by omega) (by omega) (by omega)
/-- a clause that is no question, on both sides -/
theorem s_clN (hG : zP G) (hE : ps_E B n m) (ht : 0 ≤ t ∧ t < 4) (hk : k < m) (h : ps_CS B t m M0 M k c f T) (hc : c < 24) (hs : 21 ≤ lx_c B (lx_j B k) ∧ lx_c B (lx_j B k) ≤ 28) {x2 : Int} (hx2 : 0 ≤ x2 ∧ x2 ≤ 24) {M2 : zM} (hI : ps_CI B t m M2 M2 (k + 1) c (lx_c B (lx_j B k)) 0 ps_p) (fB : zfr (ps_HB t c) M M2)
    (hok : ∀ M' k' f' T', ps_CS B t m M0 M' k' (c + 1) f' T' → k < k' → k' ≤ m → ps_CR G B n t k c f T k' (c + 1) f' T' → Y G (d + 4) mX4_readScript 34 [(2, 12), (2, 186 + 12 * t), (0, x2 + 1), (9, 0)] [] M' Q)
    (hfl : ∀ M' e k', zfr (ps_HHF t) M0 M' → M' 12 2 = e → M' 12 3 = lx_j B k' → (1 ≤ e ∧ e ≤ 5) → ps_CF G B n t k c f T e k' → Q (0, 0) M') : Y G (d + 3) mX4_readRest 0 [(2, 12), (2, 186 + 12 * t), (0, lx_c B (lx_j B k))] [] M2 (fun r M' => Y G (d + 3 + 1) mX4_readScript 72 [(2, 12), (2, 186 + 12 * t), (0, x2), (0, lx_c B (lx_j B k))] (zpush r []) M' Q) := by
  have zs := zSC_t ht
  obtain ⟨s, es⟩ : ∃ s, lx_c B (lx_j B k) = 20 + s := ⟨lx_c B (lx_j B k) - 20, by omega⟩
  have hs' : 1 ≤ s ∧ s ≤ 8 := by omega
  have h' := h
  obtain ⟨hA, ⟨h3, c0, _⟩, ⟨h8, f0, fk⟩, hX, hF⟩ := h'
  have hc' : 0 ≤ c ∧ c < 24 := ⟨c0, hc⟩
  have m3 := hE.2.1
  have F2 := ps_cF hF fB (Or.inl rfl) hc'
  rw [es] at hI
  rw [show (0, lx_c B (lx_j B k)) = ((0, 20 + s) : zV) by rw [es]]
  refine s_rest (d := d + 1) hG hE ht hc' hs' (by omega) hI (fun M3 k' g' p' hb k'm hC => bX4_readScript_72 hG zs ⟨fun w => absurd w (by decide), fun _ => ?_⟩) (fun M3 e k' g' p' hb he f3 e2 e3 => bX4_readScript_72 hG zs ⟨fun _ => hfl M3 e k' (ps_cFF F2 f3 (Or.inr (Or.inl rfl)) hc') e2 e3 (by omega) (fun D X0 X Q hZ hh => m_clN hG hE ht hk hc' f0 hs' es D hZ (fun k1 g1 p1 hb1 => by have := (ps_inj (hb.symm.trans hb1)).1; omega) (fun e1 k1 g1 p1 hb1 X3 f4 e9 => ?_)), fun w => absurd rfl w⟩)
  · -- it is told
    have F3 := ps_cF F2 hC.2.2.2.2 (Or.inr (Or.inl rfl)) hc'
    obtain ⟨eg, kk⟩ := ps_bd_g hs' hb
    have nb := znpt_b s
    refine s_exA (d := d + 2) hG hE k'm (by decide) hC.1 (fun c13 km' M4 hA4 f4 => bX4_readScript_81 hG zs ⟨fun _ => ?_, fun w => absurd w (by decide)⟩) (fun hn M4 f4 e2 e3 => bX4_readScript_81 hG zs ⟨fun w => absurd rfl w, fun _ => hfl M4 1 k' (ps_cFF F3 f4 (Or.inr (Or.inr rfl)) hc') e2 e3 (by decide) (fun D X0 X Q hZ hh => m_clN hG hE ht hk hc' f0 hs' es D hZ (fun k1 g1 p1 hb1 _ c13 => ?_) (fun e1 k1 g1 p1 hb1 X3 f5 e9 => ?_))⟩)
    · have o4 : ∀ a x, a ≠ 13 → 0 ≤ x → x < 1000000 → M4 a x = M3 a x := fun a x ha x0 x1 => f4 a x (by unfold zhw zhit; simp; omega)
      have e43 : M4 (186 + 12 * t) 3 = c := by rw [o4 _ _ (by omega) (by decide) (by decide)]; exact hC.2.1
      rw [e43]
      refine ⟨by omega, by omega, ?_⟩
      obtain ⟨T', t1, t2, t3, _⟩ := ps_mkT T (fun j => if j = 0 then s else p' (j - 1)) t c f 0 ps_p ps_p hc' f0
      have fC : ∀ a x, a ≠ 13 → a ≠ 12 → a ≠ 186 + 12 * t → ¬ (a = 186 + 12 * t + 2 ∧ 6 * c ≤ x ∧ x < 6 * c + 6) → 0 ≤ x → x < 1000000 → M3 a x = M2 a x := fun a x a1 a2 a3 a4 x0 x1 => hC.2.2.2.2 a x (by unfold ps_HI zhw zhit; simp; omega)
      have fb : ∀ a x, a ≠ 13 → a ≠ 186 + 12 * t → ¬ (a = 186 + 12 * t + 1 ∧ x = c) → ¬ (a = 186 + 12 * t + 2 ∧ 6 * c ≤ x ∧ x < 6 * c + 6) → 0 ≤ x → x < 1000000 → M2 a x = M a x := fun a x a1 a2 a3 a4 x0 x1 => fB a x (by unfold ps_HB zhw zhit; simp; omega)
      have o5 : ∀ a x, a ≠ 186 + 12 * t → zset M4 (186 + 12 * t) 3 (c + 1) a x = M4 a x := fun a x ha => by rw [zset_off ha]
      have al : ∀ a x, a ≠ 13 → a ≠ 12 → a ≠ 186 + 12 * t → ¬ (a = 186 + 12 * t + 1 ∧ x = c) → ¬ (a = 186 + 12 * t + 2 ∧ 6 * c ≤ x ∧ x < 6 * c + 6) → 0 ≤ x → x < 1000000 → zset M4 (186 + 12 * t) 3 (c + 1) a x = M a x := fun a x a1 a2 a3 a4 a5 x0 x1 => by rw [o5 _ _ a3, o4 _ _ a1 x0 x1, fC a x a1 a2 a3 a5 x0 x1, fb a x a1 a3 a4 a5 x0 x1]
      refine hok _ (k' + 1) f T' (ps_CSn h ht hc' (lx_A_c hA4 (fun i _ _ => o5 _ _ (by omega)) (fun i _ => ⟨o5 _ _ (by omega), o5 _ _ (by omega), o5 _ _ (by omega)⟩)) zset_same ⟨by rw [al _ _ (by omega) (by omega) (by omega) (by omega) (by omega) (by decide) (by decide)]; exact h8, Int.le_refl f, by omega, by omega⟩ (fun a x a0 a1 x0 x1 => al _ _ (by omega) (by omega) (by omega) (by omega) (by omega) x0 (by omega)) (fun x x0 x1 => al _ _ (by omega) (by omega) (by omega) (by omega) (by omega) x0 (by omega)) (fun x x0 x1 => al _ _ (by omega) (by omega) (by omega) (by omega) (by omega) x0 (by omega)) t1 t2 ?_ ?_) (by omega) (by omega) (fun D X0 X Q hZ hh => m_clN hG hE ht hk hc' f0 hs' es D hZ (fun k1 g1 p1 hb1 _ _ _ X3 m3' t3' q0 q14 q15 qs qp qo qs2 qF => ?_) (fun e1 k1 g1 p1 hb1 X3 f5 e9 => ?_))
      · -- the clause is told
        have r0 : T' (889 * t + 12 * c + 1) = s := by have q := t3 0 (by decide) (by decide); rw [if_pos rfl, Int.add_zero] at q; exact q
        unfold zXc
        rw [ps_gh_t, r0, ps_gh_n (by omega), o5 _ _ (by omega), o4 _ _ (by omega) (by omega) (by omega)]
        refine ⟨by omega, hC.2.2.1, fun w => by omega, fun j j0 j1 => ?_⟩
        rw [ps_gh_t, ps_gh_n (by omega), o5 _ _ (by omega), o4 _ _ (by omega) (by omega) (by omega), hC.2.2.2.1 j j0 (by omega) (by omega)]
        have q := t3 (1 + j) (by omega) (by omega)
        rw [if_neg (by omega), show 1 + j - 1 = j by omega, show 889 * t + 12 * c + 1 + (1 + j) = 889 * t + 12 * c + 2 + j by omega] at q
        exact q.symm
      · exact ps_cF (ps_cF F3 f4 (Or.inr (Or.inr (Or.inr (Or.inl rfl)))) hc') (zfr_set zfr_rfl (zhit_at 0 rfl (by decide))) (Or.inr (Or.inr (Or.inr (Or.inr (Or.inr rfl))))) hc'
      · -- the model's run
        obtain ⟨_, ek, eg1, ep⟩ := ps_inj (hb.symm.trans hb1)
        subst ek; subst eg1; subst ep
        refine hh X3 (ps_Zn hZ hc' m3' t3' q14 q15 q0 qo (fun x x0 x1 => qs2 x x0 (by omega)) t1 t2 ?_ (fun i i0 i1 i2 => by omega) qF)
        have r0 : T' (889 * t + 12 * c + 1) = s := by have q := t3 0 (by decide) (by decide); rw [if_pos rfl, Int.add_zero] at q; exact q
        refine ⟨by rw [qs, r0], fun w => by omega, fun j j0 j1 => ?_⟩
        rw [r0] at j1
        rw [qp j j0 (by omega) (by omega)]
        have q := t3 (1 + j) (by omega) (by omega)
        rw [if_neg (by omega), show 1 + j - 1 = j by omega, show 889 * t + 12 * c + 1 + (1 + j) = 889 * t + 12 * c + 2 + j by omega] at q
        exact q.symm
      · rcases hb1 with ⟨hb1, he1⟩ | ⟨hb1, hn1, _⟩
        · have := (ps_inj (hb.symm.trans hb1)).1; omega
        · obtain ⟨_, ek, _, _⟩ := ps_inj (hb.symm.trans hb1)
          subst ek; exact absurd c13 hn1
    · obtain ⟨_, ek, _, _⟩ := ps_inj (hb.symm.trans hb1)
      subst ek; exact absurd c13 hn
    · rcases hb1 with ⟨hb1, he1⟩ | ⟨hb1, hn1, e1e⟩
      · have := (ps_inj (hb.symm.trans hb1)).1; omega
      · obtain ⟨_, ek, _, _⟩ := ps_inj (hb.symm.trans hb1)
        subst ek; rw [e1e]
        exact hh X3 (zfr_trans hZ.2.2.2.2 f5) e9
  · rcases hb1 with ⟨hb1, he1⟩ | ⟨hb1, hn1, e1e⟩
    · obtain ⟨ee, ek, _, _⟩ := ps_inj (hb.symm.trans hb1)
      subst ee; subst ek
      exact hh X3 (zfr_trans hZ.2.2.2.2 f4) e9
    · have := (ps_inj (hb.symm.trans hb1)).1; omega
end PSQ
