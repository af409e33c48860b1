section PST
variable {G : zG} {d : Nat} {M M0 X0 X : zM} {Q : zV → zM → Prop} {B : Int → Int} {n t f c : Int} {m k : Nat} {T : Int → Int}
theorem ps_CR_r : ps_CR G B n t k c f T k c f T := fun _ _ X _ hZ hh => hh X hZ
theorem ps_CR_t {k1 k2 : Nat} {c1 c2 f1 f2 : Int} {T1 T2 : Int → Int} (h1 : ps_CR G B n t k c f T k1 c1 f1 T1) (h2 : ps_CR G B n t k1 c1 f1 T1 k2 c2 f2 T2) : ps_CR G B n t k c f T k2 c2 f2 T2 := fun D X0 X Q hZ hh => h1 D X0 X Q hZ (fun X1 h => h2 D X0 X1 Q h hh)
theorem ps_CR_F {k1 k2 : Nat} {c1 f1 e : Int} {T1 : Int → Int} (h1 : ps_CR G B n t k c f T k1 c1 f1 T1) (h2 : ps_CF G B n t k1 c1 f1 T1 e k2) : ps_CF G B n t k c f T e k2 := fun D X0 X Q hZ hh => h1 D X0 X Q hZ (fun X1 h => h2 D X0 X1 Q h hh)
/-- all clauses of a text, on both sides -/
theorem s_loop (hG : zP G) (hE : ps_E B n m) (ht : 0 ≤ t ∧ t < 4) : ∀ (r : Nat) (k : Nat) (c f : Int) (T : Int → Int) (M : zM), k + r = m → ps_CS B t m M0 M k c f T → (∀ M' k' c' f' T', ps_CS B t m M0 M' k' c' f' T' → k' ≤ m → lx_c B (lx_j B k') = 0 → ps_CR G B n t k c f T k' c' f' T' → Q (0, 1) M') → (∀ M' e k', zfr (ps_HHF t) M0 M' → M' 12 2 = e → M' 12 3 = lx_j B k' → (1 ≤ e ∧ e ≤ 5) → ps_CF G B n t k c f T e k' → Q (0, 0) M') → Y G (d + 44) mX4_readScript 34 [(2, 12), (2, 186 + 12 * t), (0, c), (9, 0)] [] M Q := fun r => by
  induction r using Nat.strongRecOn with
  | ind r ih =>
    intro k c f T M hr h hok hfl
    have zs := zSC_t ht
    have h' := h
    obtain ⟨hA, ⟨h3, c0, c24⟩, _, _, hF⟩ := h'
    have a7 := hA.2.2.2.1
    have a8 := hA.2.2.2.2.1
    have km : k ≤ m := by omega
    refine bX4_readScript_34 hG zs ?_
    rw [a7]
    refine ⟨fun z => by omega, fun _ => ⟨fun z => hok M k c f T h km z ps_CR_r, fun z => ?_⟩⟩
    have fz : ∀ e : Int, zfr (ps_HHF t) M0 (zset (zset M 12 2 e) 12 3 (M 13 8)) ∧ zset (zset M 12 2 e) 12 3 (M 13 8) 12 2 = e ∧ zset (zset M 12 2 e) 12 3 (M 13 8) 12 3 = lx_j B k := fun e => ⟨zfr_set (zfr_set (zfr_sub hF (fun y hy => List.mem_cons_of_mem _ hy)) (zhit_at 0 rfl (by decide))) (zhit_at 0 rfl (by decide)), by rw [zr_set (by decide)]; exact zset_same, by rw [zset_same]; exact a8⟩
    by_cases z20 : 20 ≤ lx_c B (lx_j B k) ∧ lx_c B (lx_j B k) ≤ 28
    · by_cases z24 : c < 24
      · refine s_bcl (d := d + 42) hG hE ht km h z24 z20 (fun M2 hI fB hk => bX4_readScript_63 hG zs ⟨fun w => absurd w (by decide), fun _ => ?_⟩)
        have ok' : ∀ M' k' f' T', ps_CS B t m M0 M' k' (c + 1) f' T' → k < k' → k' ≤ m → ps_CR G B n t k c f T k' (c + 1) f' T' → Y G (d + 44) mX4_readScript 34 [(2, 12), (2, 186 + 12 * t), (0, c + 1), (9, 0)] [] M' Q := fun M' k' f' T' hC kk k'm R => ih (m - k') (by omega) k' (c + 1) f' T' M' (by omega) hC (fun M1 k1 c1 f1 T1 g1 g2 g3 g4 => hok M1 k1 c1 f1 T1 g1 g2 g3 (ps_CR_t R g4)) (fun M1 e k1 g1 g2 g3 g4 g5 => hfl M1 e k1 g1 g2 g3 g4 (ps_CR_F R g5))
        by_cases e20 : lx_c B (lx_j B k) = 20
        · exact s_clA (d := d) hG hE ht hk h z24 e20 ⟨c0, c24⟩ hI fB ok' hfl
        · exact s_clN (d := d + 40) hG hE ht hk h z24 ⟨by omega, z20.2⟩ ⟨c0, c24⟩ hI fB ok' hfl
      · have e24 : c = 24 := by omega
        refine bX4_beginClause_0 hG zs ?_
        rw [a7, h3]
        refine ⟨fun _ => ⟨fun w => absurd w z24, fun _ => bX4_fail_0 hG (bX4_beginClause_46 hG zs ⟨fun _ => bX4_readScript_63 hG zs ⟨fun _ => hfl _ 5 k (fz 5).1 (fz 5).2.1 (fz 5).2.2 (by decide) (fun D X0 X Q hZ hh => m_clp (d := D) hG hE ht km ⟨c0, c24⟩ z hZ (fun _ w => by omega) (fun _ _ => hh X hZ.2.2.2.2 hZ.1.2.2.1) (fun w => absurd z20 w)), fun w => absurd rfl w⟩, fun w => absurd rfl w⟩)⟩, fun w => absurd z20 w⟩
    · refine bX4_beginClause_0 hG zs ?_
      rw [a7]
      refine ⟨fun w => absurd w z20, fun _ => bX4_fail_0 hG (bX4_beginClause_22 hG zs ⟨fun _ => bX4_readScript_63 hG zs ⟨fun _ => hfl _ 1 k (fz 1).1 (fz 1).2.1 (fz 1).2.2 (by decide) (fun D X0 X Q hZ hh => m_clp (d := D) hG hE ht km ⟨c0, c24⟩ z hZ (fun w => absurd w z20) (fun w => absurd w z20) (fun _ => hh X hZ.2.2.2.2 hZ.1.2.2.1)), fun w => absurd rfl w⟩, fun w => absurd rfl w⟩)⟩
end PST
