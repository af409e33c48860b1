section PSN
variable {G : zG} {d : Nat} {M X0 X : zM} {Q : zV → zM → Prop} {B : Int → Int} {n t f c : Int} {m k : Nat} {T : Int → Int}
theorem m_sort (hG : zP G) (hT : ps_T B M k) (h1 : (20 ≤ lx_c B (lx_j B k) ∧ lx_c B (lx_j B k) ≤ 28) → Q (0, lx_c B (lx_j B k) - 20) M) (h0 : ¬ (20 ≤ lx_c B (lx_j B k) ∧ lx_c B (lx_j B k) ≤ 28) → Q (0, -1) M) : Y G (d + 5) mX12_sortAt 0 [(2, 234)] [] M Q := by
  refine bX12_sortAt_0 hG (bX12_w3_0 hG (bX12_sortAt_10 hG (m_word hG (c := 20) hT (by decide) (by decide +kernel) (fun z => bX12_sortAt_13 hG ⟨fun w => absurd w (by decide), fun _ => ?_⟩) (fun z0 => bX12_sortAt_13 hG ⟨fun _ => ?_, fun w => absurd rfl w⟩))))
  · have q := h1 (by omega)
    rw [z] at q; exact q
  refine bX12_w3_0 hG (bX12_sortAt_28 hG (m_word hG (c := 21) hT (by decide) (by decide +kernel) (fun z => bX12_sortAt_31 hG ⟨fun w => absurd w (by decide), fun _ => ?_⟩) (fun z1 => bX12_sortAt_31 hG ⟨fun _ => ?_, fun w => absurd rfl w⟩)))
  · have q := h1 (by omega)
    rw [z] at q; exact q
  refine bX12_w4_0 hG (bX12_w3_0 hG (bX12_w4_6 hG (bX12_sortAt_48 hG (m_word hG (c := 22) hT (by decide) (by decide +kernel) (fun z => bX12_sortAt_51 hG ⟨fun w => absurd w (by decide), fun _ => ?_⟩) (fun z2 => bX12_sortAt_51 hG ⟨fun _ => ?_, fun w => absurd rfl w⟩)))))
  · have q := h1 (by omega)
    rw [z] at q; exact q
  refine bX12_w4_0 hG (bX12_w3_0 hG (bX12_w4_6 hG (bX12_sortAt_68 hG (m_word hG (c := 23) hT (by decide) (by decide +kernel) (fun z => bX12_sortAt_71 hG ⟨fun w => absurd w (by decide), fun _ => ?_⟩) (fun z3 => bX12_sortAt_71 hG ⟨fun _ => ?_, fun w => absurd rfl w⟩)))))
  · have q := h1 (by omega)
    rw [z] at q; exact q
  refine bX12_w3_0 hG (bX12_sortAt_86 hG (m_word hG (c := 24) hT (by decide) (by decide +kernel) (fun z => bX12_sortAt_89 hG ⟨fun w => absurd w (by decide), fun _ => ?_⟩) (fun z4 => bX12_sortAt_89 hG ⟨fun _ => ?_, fun w => absurd rfl w⟩)))
  · have q := h1 (by omega)
    rw [z] at q; exact q
  refine bX12_w5_0 hG (bX12_w4_0 hG (bX12_w3_0 hG (bX12_w4_6 hG (bX12_w5_7 hG (bX12_sortAt_108 hG (m_word hG (c := 25) hT (by decide) (by decide +kernel) (fun z => bX12_sortAt_111 hG ⟨fun w => absurd w (by decide), fun _ => ?_⟩) (fun z5 => bX12_sortAt_111 hG ⟨fun _ => ?_, fun w => absurd rfl w⟩)))))))
  · have q := h1 (by omega)
    rw [z] at q; exact q
  refine bX12_w6_0 hG (bX12_w5_0 hG (bX12_w4_0 hG (bX12_w3_0 hG (bX12_w4_6 hG (bX12_w5_7 hG (bX12_w6_9 hG (bX12_sortAt_132 hG (m_word hG (c := 26) hT (by decide) (by decide +kernel) (fun z => bX12_sortAt_135 hG ⟨fun w => absurd w (by decide), fun _ => ?_⟩) (fun z6 => bX12_sortAt_135 hG ⟨fun _ => ?_, fun w => absurd rfl w⟩)))))))))
  · have q := h1 (by omega)
    rw [z] at q; exact q
  refine bX12_w4_0 hG (bX12_w3_0 hG (bX12_w4_6 hG (bX12_sortAt_153 hG (m_word hG (c := 27) hT (by decide) (by decide +kernel) (fun z => bX12_sortAt_156 hG ⟨fun w => absurd w (by decide), fun _ => ?_⟩) (fun z7 => bX12_sortAt_156 hG ⟨fun _ => ?_, fun w => absurd rfl w⟩)))))
  · have q := h1 (by omega)
    rw [z] at q; exact q
  refine bX12_w3_0 hG (bX12_sortAt_172 hG (bX12_w4_0 hG (bX12_w3_0 hG (bX12_w4_6 hG (bX12_sortAt_186 hG (m_word hG (c := 28) hT (by decide) (by decide +kernel) (fun z => bX12_sortAt_190 hG ⟨fun w => absurd w (by decide), fun _ => ?_⟩) (fun z8 => bX12_sortAt_190 hG ⟨fun _ => h0 (by omega), fun w => absurd rfl w⟩)))))))
  · have q := h1 (by omega)
    rw [z] at q; exact q
/-- the told row agrees where a clause is told -/
def ps_ag (t c : Int) (T T' : Int → Int) : Prop := T' (889 * t + 12 * c + 1) = T (889 * t + 12 * c + 1) ∧ (T (889 * t + 12 * c + 1) = 0 → ∀ x, 889 * t + 12 * c + 7 ≤ x → x ≤ 889 * t + 12 * c + 12 → T' x = T x) ∧ (∀ j, 0 ≤ j → j < znpt (T (889 * t + 12 * c + 1)) → T' (889 * t + 12 * c + 2 + j) = T (889 * t + 12 * c + 2 + j))
theorem ps_ag_c {S T S' T' : Int → Int} (h : ps_ag t c T S) (eT : ∀ x, 889 * t + 12 * c + 1 ≤ x → x ≤ 889 * t + 12 * c + 12 → T' x = T x) (eS : ∀ x, 889 * t + 12 * c + 1 ≤ x → x ≤ 889 * t + 12 * c + 12 → S' x = S x) : ps_ag t c T' S' := by
  obtain ⟨h1, h2, h3⟩ := h
  have e1 := eT (889 * t + 12 * c + 1) (by omega) (by omega)
  have nb := znpt_b (T (889 * t + 12 * c + 1))
  refine ⟨by rw [e1, eS _ (by omega) (by omega)]; exact h1, fun z x x0 x1 => ?_, fun j j0 j1 => ?_⟩
  · rw [eT x (by omega) x1, eS x (by omega) x1]; exact h2 (by rw [← e1]; exact z) x x0 x1
  · rw [e1] at j1
    rw [eT _ (by omega) (by omega), eS _ (by omega) (by omega)]; exact h3 j j0 j1
/-- the model between two clauses -/
def ps_GG (t : Int) : List (Int × Int × Int) := [(234, 8, 28), (240, 889 * t, 889 * t + 889), (241, 0, 1000000), (242, 0, 1000000), (243, 0, 1000000), (244, 0, 1000000), (245, 0, 1000000)]
def ps_Z (B : Int → Int) (n t : Int) (X0 X : zM) (k : Nat) (c f : Int) (T : Int → Int) : Prop := (lx_M B n X ∧ ps_T B X k) ∧ (X 234 14 = 889 * t ∧ X 234 15 = f ∧ X 240 (889 * t) = c) ∧ (∀ c', 0 ≤ c' → c' < c → ps_ag t c' T (X 240)) ∧ (∀ i, 0 ≤ i → i < f → X 240 (889 * t + 289 + 2 * i) = T (889 * t + 289 + 2 * i) ∧ X 240 (889 * t + 289 + 2 * i + 1) = T (889 * t + 289 + 2 * i + 1)) ∧ zfr (ps_GG t) X0 X
/-- the beginning of a clause in the model -/
theorem m_clp (hG : zP G) (hE : ps_E B n m) (ht : 0 ≤ t ∧ t < 4) (hk : k ≤ m) (hc : 0 ≤ c ∧ c ≤ 24) (hne : lx_c B (lx_j B k) ≠ 0) (h : ps_Z B n t X0 X k c f T) (h1 : (20 ≤ lx_c B (lx_j B k) ∧ lx_c B (lx_j B k) ≤ 28) → c < 24 → ∀ X1, ps_ZI B n t f X1 X1 (k + 1) c (lx_c B (lx_j B k) - 20) 0 ps_p → zfr [(234, 8, 13), (234, 16, 17), (240, 889 * t + 12 * c + 1, 889 * t + 12 * c + 13)] X X1 → Y G (d + 31) mX12_body 0 [(2, 234), (0, lx_c B (lx_j B k) - 20), (9, 0)] [] X1 (fun r M' => Y G (d + 31 + 1) mX12_clause 79 [(2, 234), (0, lx_c B (lx_j B k) - 20), (0, c), (9, 0)] (zpush r []) M' (fun r M' => Y G (d + 32 + 1) mX12_readText 50 [(2, 234), (9, 0)] (zpush r []) M' Q))) (h5 : (20 ≤ lx_c B (lx_j B k) ∧ lx_c B (lx_j B k) ≤ 28) → c = 24 → Q (0, 5) X) (h0 : ¬ (20 ≤ lx_c B (lx_j B k) ∧ lx_c B (lx_j B k) ≤ 28) → Q (0, 1) X) : Y G (d + 32 + 1) mX12_readText 39 [(2, 234), (9, 0)] [] X Q := by
  obtain ⟨⟨hM, hT⟩, ⟨a4, a5, a0⟩, hag, hst, hF⟩ := h
  refine bX12_readText_39 hG ⟨fun z => absurd ((ps_0 hT).mp z) hne, fun _ => bX12_clause_0 hG (m_sort (d := d + 26) hG hT (fun z => bX12_clause_4 hG ?_) (fun z => bX12_clause_4 hG ⟨fun w => absurd w (by decide), fun _ => bX12_readText_50 hG ⟨fun w => absurd w (by decide), fun _ => h0 z⟩⟩))⟩
  rw [a4, a0]
  refine ⟨fun _ => ⟨by omega, fun z24 => ?_, fun z24 => bX12_readText_50 hG ⟨fun w => absurd w (by decide), fun _ => h5 z z24⟩⟩, fun w => by omega⟩
  have km := ps_lt hE hk hne
  refine m_tok (d := d + 30) hG hE hM km hT.1 (fun X' f1 m1 t1 => bX12_clause_33 hG ?_)
  have z4 : ∀ i, 13 ≤ i → i < 1000 → X' 234 i = X 234 i := fun i i0 i1 => f1 234 i (by unfold zhw zhit; simp; omega)
  rw [z4 14 (by decide) (by decide), z4 15 (by decide) (by decide), a4, a5]
  refine ⟨by omega, by omega, by omega, by omega, by omega, by omega, ?_⟩
  rw [show 889 * t + 1 + 12 * c = 889 * t + 12 * c + 1 by omega, show 889 * t + 12 * c + 1 + 6 = 889 * t + 12 * c + 7 by omega]
  refine h1 z (by omega) _ ⟨⟨ps_lM (ps_lM (ps_lM m1 (by decide)) ⟨by decide, fun w => absurd w (by decide)⟩) ⟨by decide, fun w => absurd w (by decide)⟩, ps_lT (ps_lT (ps_lT t1 (by decide)) (fun w => absurd w (by decide))) (fun w => absurd w (by decide))⟩, ⟨?_, ?_, ?_⟩, ⟨?_, zset_same⟩, fun j j0 j1 => by omega, zfr_rfl⟩ ?_
  · rw [zset_off (by decide), zset_off (by decide), zr_set (by decide), z4 14 (by decide) (by decide)]; exact a4
  · rw [zset_off (by decide), zset_off (by decide), zr_set (by decide), z4 15 (by decide) (by decide)]; exact a5
  · rw [zset_off (by decide), zset_off (by decide), zset_same]
  · rw [zset_ne (by omega), zset_same]
  · exact zfr_set (zfr_set (zfr_set (zfr_sub f1 (fun y hy => by rw [List.mem_singleton] at hy; rw [hy]; exact List.mem_cons_self)) (zhit_at 1 rfl (by decide))) (zhit_at 2 rfl (by omega))) (zhit_at 2 rfl (by omega))
/-- the end of a clause in the model -/
theorem m_cls (hG : zP G) (hE : ps_E B n m) (ht : 0 ≤ t ∧ t < 4) (hk : k ≤ m) (hc : 0 ≤ c ∧ c < 24) {x1 : Int} (hM : lx_M B n X) (hT : ps_T B X k) (a4 : X 234 14 = 889 * t) (a6 : X 234 16 = 889 * t + 12 * c + 1) (a0 : X 240 (889 * t) = c) (h1 : lx_c B (lx_j B k) = 13 → k < m → ∀ X3, lx_M B n X3 → ps_T B X3 (k + 1) → X3 240 (889 * t) = c + 1 → (X3 240 (889 * t + 12 * c + 8) = X 234 15 ∧ X3 240 (889 * t + 12 * c + 9) = X 234 23 ∧ X3 240 (889 * t + 12 * c + 10) = X 234 24 ∧ X3 240 (889 * t + 12 * c + 11) = X 234 25 ∧ X3 240 (889 * t + 12 * c + 12) = X 234 26) → (∀ x, 0 ≤ x → x < 1000000 → x ≠ 889 * t → ¬ (889 * t + 12 * c + 8 ≤ x ∧ x ≤ 889 * t + 12 * c + 12) → X3 240 x = X 240 x) → zfr [(234, 8, 13), (240, 889 * t, 889 * t + 289)] X X3 → Y G (d + 32 + 1) mX12_readText 39 [(2, 234), (9, 0)] [] X3 Q) (h0 : lx_c B (lx_j B k) ≠ 13 → ∀ X3, X3 234 9 = lx_j B k → zfr [(234, 8, 13), (240, 889 * t, 889 * t + 289)] X X3 → Q (0, 1) X3) : Y G (d + 31 + 1) mX12_clause 79 [(2, 234), (0, x1), (0, c), (9, 0)] [(0, 0)] X (fun r M' => Y G (d + 32 + 1) mX12_readText 50 [(2, 234), (9, 0)] (zpush r []) M' Q) := by
  refine bX12_clause_79 hG ⟨fun _ => ?_, fun w => absurd rfl w⟩
  rw [a4, a6]
  have ez : zset (zset (zset (zset (zset X 240 (889 * t + 12 * c + 1 + 7) (X 234 15)) 240 (889 * t + 12 * c + 1 + 8) (X 234 23)) 240 (889 * t + 12 * c + 1 + 9) (X 234 24)) 240 (889 * t + 12 * c + 1 + 10) (X 234 25)) 240 (889 * t + 12 * c + 1 + 11) (X 234 26) 240 (889 * t) = c := by
    rw [zset_ne (by omega), zset_ne (by omega), zset_ne (by omega), zset_ne (by omega), zset_ne (by omega)]; exact a0
  rw [ez]
  have e8 : zset (zset (zset (zset (zset (zset X 240 (889 * t + 12 * c + 1 + 7) (X 234 15)) 240 (889 * t + 12 * c + 1 + 8) (X 234 23)) 240 (889 * t + 12 * c + 1 + 9) (X 234 24)) 240 (889 * t + 12 * c + 1 + 10) (X 234 25)) 240 (889 * t + 12 * c + 1 + 11) (X 234 26)) 240 (889 * t) (c + 1) 240 (889 * t + 12 * c + 8) = X 234 15 := by
    rw [zset_ne (by omega), zset_ne (by omega), zset_ne (by omega), zset_ne (by omega), zset_ne (by omega), show 889 * t + 12 * c + 8 = 889 * t + 12 * c + 1 + 7 by omega, zset_same]
  have e9 : zset (zset (zset (zset (zset (zset X 240 (889 * t + 12 * c + 1 + 7) (X 234 15)) 240 (889 * t + 12 * c + 1 + 8) (X 234 23)) 240 (889 * t + 12 * c + 1 + 9) (X 234 24)) 240 (889 * t + 12 * c + 1 + 10) (X 234 25)) 240 (889 * t + 12 * c + 1 + 11) (X 234 26)) 240 (889 * t) (c + 1) 240 (889 * t + 12 * c + 9) = X 234 23 := by
    rw [zset_ne (by omega), zset_ne (by omega), zset_ne (by omega), zset_ne (by omega), show 889 * t + 12 * c + 9 = 889 * t + 12 * c + 1 + 8 by omega, zset_same]
  have e10 : zset (zset (zset (zset (zset (zset X 240 (889 * t + 12 * c + 1 + 7) (X 234 15)) 240 (889 * t + 12 * c + 1 + 8) (X 234 23)) 240 (889 * t + 12 * c + 1 + 9) (X 234 24)) 240 (889 * t + 12 * c + 1 + 10) (X 234 25)) 240 (889 * t + 12 * c + 1 + 11) (X 234 26)) 240 (889 * t) (c + 1) 240 (889 * t + 12 * c + 10) = X 234 24 := by
    rw [zset_ne (by omega), zset_ne (by omega), zset_ne (by omega), show 889 * t + 12 * c + 10 = 889 * t + 12 * c + 1 + 9 by omega, zset_same]
  have e11 : zset (zset (zset (zset (zset (zset X 240 (889 * t + 12 * c + 1 + 7) (X 234 15)) 240 (889 * t + 12 * c + 1 + 8) (X 234 23)) 240 (889 * t + 12 * c + 1 + 9) (X 234 24)) 240 (889 * t + 12 * c + 1 + 10) (X 234 25)) 240 (889 * t + 12 * c + 1 + 11) (X 234 26)) 240 (889 * t) (c + 1) 240 (889 * t + 12 * c + 11) = X 234 25 := by
    rw [zset_ne (by omega), zset_ne (by omega), show 889 * t + 12 * c + 11 = 889 * t + 12 * c + 1 + 10 by omega, zset_same]
  have e12 : zset (zset (zset (zset (zset (zset X 240 (889 * t + 12 * c + 1 + 7) (X 234 15)) 240 (889 * t + 12 * c + 1 + 8) (X 234 23)) 240 (889 * t + 12 * c + 1 + 9) (X 234 24)) 240 (889 * t + 12 * c + 1 + 10) (X 234 25)) 240 (889 * t + 12 * c + 1 + 11) (X 234 26)) 240 (889 * t) (c + 1) 240 (889 * t + 12 * c + 12) = X 234 26 := by
    rw [zset_ne (by omega), show 889 * t + 12 * c + 12 = 889 * t + 12 * c + 1 + 11 by omega, zset_same]
  have e0 : zset (zset (zset (zset (zset (zset X 240 (889 * t + 12 * c + 1 + 7) (X 234 15)) 240 (889 * t + 12 * c + 1 + 8) (X 234 23)) 240 (889 * t + 12 * c + 1 + 9) (X 234 24)) 240 (889 * t + 12 * c + 1 + 10) (X 234 25)) 240 (889 * t + 12 * c + 1 + 11) (X 234 26)) 240 (889 * t) (c + 1) 240 (889 * t) = c + 1 := zset_same
  have eo : ∀ a x, ¬ (a = 240 ∧ (x = 889 * t ∨ (889 * t + 12 * c + 8 ≤ x ∧ x ≤ 889 * t + 12 * c + 12))) → zset (zset (zset (zset (zset (zset X 240 (889 * t + 12 * c + 1 + 7) (X 234 15)) 240 (889 * t + 12 * c + 1 + 8) (X 234 23)) 240 (889 * t + 12 * c + 1 + 9) (X 234 24)) 240 (889 * t + 12 * c + 1 + 10) (X 234 25)) 240 (889 * t + 12 * c + 1 + 11) (X 234 26)) 240 (889 * t) (c + 1) a x = X a x := fun a x hx => by
    rw [zset_ne (by omega), zset_ne (by omega), zset_ne (by omega), zset_ne (by omega), zset_ne (by omega), zset_ne (by omega)]
  have eF : zfr [(234, 8, 13), (240, 889 * t, 889 * t + 289)] X (zset (zset (zset (zset (zset (zset X 240 (889 * t + 12 * c + 1 + 7) (X 234 15)) 240 (889 * t + 12 * c + 1 + 8) (X 234 23)) 240 (889 * t + 12 * c + 1 + 9) (X 234 24)) 240 (889 * t + 12 * c + 1 + 10) (X 234 25)) 240 (889 * t + 12 * c + 1 + 11) (X 234 26)) 240 (889 * t) (c + 1)) := zfr_set (zfr_set (zfr_set (zfr_set (zfr_set (zfr_set zfr_rfl (zhit_at 1 rfl (by omega))) (zhit_at 1 rfl (by omega))) (zhit_at 1 rfl (by omega))) (zhit_at 1 rfl (by omega))) (zhit_at 1 rfl (by omega))) (zhit_at 1 rfl (by omega))
  generalize zset (zset (zset (zset (zset (zset X 240 (889 * t + 12 * c + 1 + 7) (X 234 15)) 240 (889 * t + 12 * c + 1 + 8) (X 234 23)) 240 (889 * t + 12 * c + 1 + 9) (X 234 24)) 240 (889 * t + 12 * c + 1 + 10) (X 234 25)) 240 (889 * t + 12 * c + 1 + 11) (X 234 26)) 240 (889 * t) (c + 1) = W at e8 e9 e10 e11 e12 e0 eo eF ⊢
  refine ⟨by omega, by omega, by omega, by omega, by omega, by omega, by omega, by omega, by omega, by omega, by omega, by omega, by omega, fun z => ?_, fun z => ?_⟩
  · have c13 := (ps_s hT (13, 59) (by decide)).mp z
    have c13' : lx_c B (lx_j B k) = 13 := c13
    have km := ps_lt hE hk (by omega)
    have hM' : lx_M B n W := ⟨by rw [eo 234 5 (by omega)]; exact hM.1, fun i i0 i1 => by rw [eo 239 i (by omega)]; exact hM.2 i i0 i1⟩
    have hT8 : W 234 8 = lx_p B (k + 1) := by rw [eo 234 8 (by omega)]; exact hT.1
    refine m_tok (d := d + 30) hG hE hM' km hT8 (fun X3 f1 m1 t1 => bX12_clause_194 hG (bX12_readText_50 hG ⟨fun _ => ?_, fun w => absurd rfl w⟩))
    have z0 : ∀ i, 0 ≤ i → i < 1000000 → X3 240 i = W 240 i := fun i i0 i1 => f1 240 i (by unfold zhw zhit; simp; omega)
    exact h1 c13' km X3 m1 t1 (by rw [z0 _ (by omega) (by omega)]; exact e0) ⟨by rw [z0 _ (by omega) (by omega)]; exact e8, by rw [z0 _ (by omega) (by omega)]; exact e9, by rw [z0 _ (by omega) (by omega)]; exact e10, by rw [z0 _ (by omega) (by omega)]; exact e11, by rw [z0 _ (by omega) (by omega)]; exact e12⟩ (fun x x0 x1 x2 x3 => by rw [z0 _ x0 x1]; exact eo 240 x (by omega)) (zfr_trans eF (zfr_sub f1 (fun y hy => by rw [List.mem_singleton] at hy; rw [hy]; exact List.mem_cons_self)))
  · exact bX12_readText_50 hG ⟨fun w => absurd w (by decide), fun _ => h0 (fun w => z ((ps_s hT (13, 59) (by decide)).mpr w)) W (by rw [eo 234 9 (by omega)]; exact hT.2.1) eF⟩
/-- a told row with one clause more -/
theorem ps_mkT (T row : Int → Int) (t c f : Int) (L : Nat) (st v : Int → Int) (hc : 0 ≤ c ∧ c < 24) (hf : 0 ≤ f) : ∃ T' : Int → Int, (∀ x, x < 889 * t + 12 * c + 1 → T' x = T x) ∧ (∀ x, 889 * t + 289 ≤ x → x < 889 * t + 289 + 2 * f → T' x = T x) ∧ (∀ j, 0 ≤ j → j < 12 → T' (889 * t + 12 * c + 1 + j) = row j) ∧ ∀ i : Nat, i < L → T' (889 * t + 289 + 2 * (f + i)) = st i ∧ T' (889 * t + 289 + 2 * (f + i) + 1) = v i := by
  refine ⟨fun x => if x < 889 * t + 12 * c + 1 then T x else if x < 889 * t + 12 * c + 13 then row (x - (889 * t + 12 * c + 1)) else if x < 889 * t + 289 + 2 * f then T x else if (x - (889 * t + 289)) % 2 = 0 then st ((x - (889 * t + 289)) / 2 - f) else v ((x - (889 * t + 289)) / 2 - f), fun x hx => ?_, fun x h0 h1 => ?_, fun j j0 j1 => ?_, fun i hi => ⟨?_, ?_⟩⟩
  · show (if x < 889 * t + 12 * c + 1 then T x else _) = _
    rw [if_pos hx]
  · show (if x < 889 * t + 12 * c + 1 then T x else if x < 889 * t + 12 * c + 13 then row (x - (889 * t + 12 * c + 1)) else if x < 889 * t + 289 + 2 * f then T x else _) = _
    rw [if_neg (by omega), if_neg (by omega), if_pos h1]
  · show (if 889 * t + 12 * c + 1 + j < 889 * t + 12 * c + 1 then T (889 * t + 12 * c + 1 + j) else if 889 * t + 12 * c + 1 + j < 889 * t + 12 * c + 13 then row (889 * t + 12 * c + 1 + j - (889 * t + 12 * c + 1)) else _) = _
    rw [if_neg (by omega), if_pos (by omega), show 889 * t + 12 * c + 1 + j - (889 * t + 12 * c + 1) = j by omega]
  · show (if 889 * t + 289 + 2 * (f + i) < 889 * t + 12 * c + 1 then T (889 * t + 289 + 2 * (f + i)) else if 889 * t + 289 + 2 * (f + i) < 889 * t + 12 * c + 13 then row (889 * t + 289 + 2 * (f + i) - (889 * t + 12 * c + 1)) else if 889 * t + 289 + 2 * (f + i) < 889 * t + 289 + 2 * f then T (889 * t + 289 + 2 * (f + i)) else if (889 * t + 289 + 2 * (f + i) - (889 * t + 289)) % 2 = 0 then st ((889 * t + 289 + 2 * (f + i) - (889 * t + 289)) / 2 - f) else v ((889 * t + 289 + 2 * (f + i) - (889 * t + 289)) / 2 - f)) = _
    rw [if_neg (by omega), if_neg (by omega), if_neg (by omega), if_pos (by omega), show (889 * t + 289 + 2 * (f + i) - (889 * t + 289)) / 2 - f = i by omega]
  · show (if 889 * t + 289 + 2 * (f + i) + 1 < 889 * t + 12 * c + 1 then T (889 * t + 289 + 2 * (f + i) + 1) else if 889 * t + 289 + 2 * (f + i) + 1 < 889 * t + 12 * c + 13 then row (889 * t + 289 + 2 * (f + i) + 1 - (889 * t + 12 * c + 1)) else if 889 * t + 289 + 2 * (f + i) + 1 < 889 * t + 289 + 2 * f then T (889 * t + 289 + 2 * (f + i) + 1) else if (889 * t + 289 + 2 * (f + i) + 1 - (889 * t + 289)) % 2 = 0 then st ((889 * t + 289 + 2 * (f + i) + 1 - (889 * t + 289)) / 2 - f) else v ((889 * t + 289 + 2 * (f + i) + 1 - (889 * t + 289)) / 2 - f)) = _
    rw [if_neg (by omega), if_neg (by omega), if_neg (by omega), if_neg (by omega), show (889 * t + 289 + 2 * (f + i) + 1 - (889 * t + 289)) / 2 - f = i by omega]
end PSN
