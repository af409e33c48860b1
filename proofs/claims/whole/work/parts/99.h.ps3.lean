section PS3
variable {G : zG} {d : Nat} {M : zM} {Q : zV → zM → Prop} {B : Int → Int} {n t f : Int} {m k L : Nat} {st v : Int → Int} {lv dp wd gr op wh fk fw tm sg fc : Int}
/-- the model while it reads a question -/
def ps_X (B : Int → Int) (n t f : Int) (X : zM) (k L : Nat) (st v : Int → Int) (lv dp wd gr op wh : Int) : Prop := (lx_M B n X ∧ ps_T B X k) ∧ (X 234 14 = 889 * t ∧ X 234 15 = f + L ∧ X 234 22 = op ∧ X 234 23 = wd ∧ X 234 24 = dp ∧ X 234 25 = lv ∧ X 234 26 = gr ∧ X 234 27 = wh) ∧ ∀ i : Nat, i < L → X 240 (889 * t + 289 + 2 * (f + i)) = st i ∧ X 240 (889 * t + 289 + 2 * (f + i) + 1) = v i
def ps_c (X : zM) (op fk fw tm sg fc : Int) : Prop := X 241 op = fk ∧ X 242 op = fw ∧ X 243 op = tm ∧ X 244 op = sg ∧ X 245 op = fc
def ps_q (X X' : zM) (op : Int) : Prop := ∀ a i, 241 ≤ a → a ≤ 245 → 0 ≤ i → i < op → X' a i = X a i
def ps_G (t f : Int) : List (Int × Int × Int) := [(234, 8, 13), (234, 15, 16), (234, 22, 28), (240, 889 * t + 289 + 2 * f, 889 * t + 889), (241, 0, 1000000), (242, 0, 1000000), (243, 0, 1000000), (244, 0, 1000000), (245, 0, 1000000)]
def ps_P (B : Int → Int) (n t f : Int) (X0 X : zM) (k L : Nat) (st v : Int → Int) (lv dp wd gr op wh fk fw tm sg fc : Int) : Prop := ps_X B n t f X k L st v lv dp wd gr op wh ∧ ps_c X op fk fw tm sg fc ∧ ps_q X0 X op ∧ zfr (ps_G t f) X0 X
theorem ps_q_tr {X Y' Z' : zM} (h1 : ps_q X Y' op) (h2 : ps_q Y' Z' op) : ps_q X Z' op := fun a i a0 a1 i0 i1 => (h2 a i a0 a1 i0 i1).trans (h1 a i a0 a1 i0 i1)
theorem ps_lM {i w : Int} {X : zM} {a : Int} (h : lx_M B n X) (ha : a ≠ 239 ∧ (a = 234 → i ≠ 5)) : lx_M B n (zset X a i w) :=
  ⟨by rw [zset_ne (fun z => ha.2 z.1.symm z.2.symm)]; exact h.1, fun k k0 k1 => by rw [zset_off (fun z => ha.1 z.symm)]; exact h.2 k k0 k1⟩
theorem ps_lT {i w : Int} {X : zM} {a : Int} (h : ps_T B X k) (ha : a = 234 → ¬ (8 ≤ i ∧ i ≤ 12)) : ps_T B (zset X a i w) k := by
  have e : ∀ j, 8 ≤ j → j ≤ 12 → zset X a i w 234 j = X 234 j := fun j j0 j1 => zset_ne (fun z => ha z.1.symm (by omega))
  unfold ps_T
  rw [e 8 (by decide) (by decide), e 9 (by decide) (by decide), e 10 (by decide) (by decide), e 11 (by decide) (by decide), e 12 (by decide) (by decide)]
  exact h
/-- a step is written -/
theorem m_wr (hG : zP G) {X0 X : zM} {s w : Int} (ht : 0 ≤ t ∧ t < 4) (hf : 0 ≤ f ∧ f + L < 300) (h : ps_P B n t f X0 X k L st v lv dp wd gr op wh fk fw tm sg fc) (hh : ∀ X', ps_P B n t f X0 X' k (L + 1) (zup st L s) (zup v L w) lv dp wd gr op wh fk fw tm sg fc → Q (9, 0) X') : Y G d mX12_write 0 [(2, 234), (0, s), (0, w)] [] X Q := by
  obtain ⟨⟨⟨hM, hT⟩, ⟨a4, a5, b2, b3, b4, b5, b6, b7⟩, hs⟩, ⟨c1, c2, c3, c4, c5⟩, hq, hf'⟩ := h
  refine bX12_write_0 hG ?_
  rw [a4, a5]
  refine ⟨by omega, by omega, by omega, by omega, by omega, by omega, by omega, by omega, by omega, by omega, hh _ ⟨⟨⟨ps_lM (ps_lM (ps_lM hM ⟨by decide, fun z => absurd z (by decide)⟩) ⟨by decide, fun z => absurd z (by decide)⟩) (by decide), ps_lT (ps_lT (ps_lT hT (fun z => absurd z (by decide))) (fun z => absurd z (by decide))) (by decide)⟩, ⟨?_, ?_, ?_, ?_, ?_, ?_, ?_, ?_⟩, fun i hi => ?_⟩, ⟨?_, ?_, ?_, ?_, ?_⟩, fun a i a0 a1 i0 i1 => ?_, ?_⟩⟩
  · rw [zr_set (by decide), zset_off (by decide), zset_off (by decide)]; exact a4
  · rw [zset_same]; omega
  · rw [zr_set (by decide), zset_off (by decide), zset_off (by decide)]; exact b2
  · rw [zr_set (by decide), zset_off (by decide), zset_off (by decide)]; exact b3
  · rw [zr_set (by decide), zset_off (by decide), zset_off (by decide)]; exact b4
  · rw [zr_set (by decide), zset_off (by decide), zset_off (by decide)]; exact b5
  · rw [zr_set (by decide), zset_off (by decide), zset_off (by decide)]; exact b6
  · rw [zr_set (by decide), zset_off (by decide), zset_off (by decide)]; exact b7
  · rw [zset_off (show (240 : Int) ≠ 234 by decide)]
    by_cases c : i = L
    · subst c
      rw [zup_at, zup_at]
      exact ⟨(zr_set (by omega)).trans zset_same, zset_same⟩
    · rw [zup_ne (by omega), zup_ne (by omega)]
      have q := hs i (by omega)
      exact ⟨((zr_set (by omega)).trans (zr_set (by omega))).trans q.1, ((zr_set (by omega)).trans (zr_set (by omega))).trans q.2⟩
  · rw [zset_off (by decide), zset_off (by decide), zset_off (by decide)]; exact c1
  · rw [zset_off (by decide), zset_off (by decide), zset_off (by decide)]; exact c2
  · rw [zset_off (by decide), zset_off (by decide), zset_off (by decide)]; exact c3
  · rw [zset_off (by decide), zset_off (by decide), zset_off (by decide)]; exact c4
  · rw [zset_off (by decide), zset_off (by decide), zset_off (by decide)]; exact c5
  · rw [zset_off (by omega), zset_off (by omega), zset_off (by omega)]; exact hq a i a0 a1 i0 i1
  · exact zfr_set (zfr_set (zfr_set hf' (zhit_at 3 rfl (by omega))) (zhit_at 3 rfl (by omega))) (zhit_at 1 rfl (by decide))
/-- one of the model's own numbers changes -/
theorem ps_fld {X0 X : zM} {i w : Int} (h : ps_P B n t f X0 X k L st v lv dp wd gr op wh fk fw tm sg fc) (hi : i = 23 ∨ i = 24 ∨ i = 25 ∨ i = 26 ∨ i = 27) : ps_P B n t f X0 (zset X 234 i w) k L st v (if i = 25 then w else lv) (if i = 24 then w else dp) (if i = 23 then w else wd) (if i = 26 then w else gr) op (if i = 27 then w else wh) fk fw tm sg fc := by
  obtain ⟨⟨⟨hM, hT⟩, ⟨a4, a5, b2, b3, b4, b5, b6, b7⟩, hs⟩, ⟨c1, c2, c3, c4, c5⟩, hq, hf'⟩ := h
  have z : ∀ j, j ≠ i → zset X 234 i w 234 j = X 234 j := fun j hj => zset_ne (fun y => hj y.2)
  have z2 : ∀ j u, X 234 j = u → zset X 234 i w 234 j = if i = j then w else u := fun j u hu => by
    by_cases c : i = j
    · rw [if_pos c, c, zset_same]
    · rw [if_neg c, z j (fun y => c y.symm)]; exact hu
  refine ⟨⟨⟨ps_lM hM ⟨by decide, fun _ => by omega⟩, ps_lT hT (fun _ => by omega)⟩, ⟨by rw [z 14 (by omega)]; exact a4, by rw [z 15 (by omega)]; exact a5, by rw [z 22 (by omega)]; exact b2, z2 23 _ b3, z2 24 _ b4, z2 25 _ b5, z2 26 _ b6, z2 27 _ b7⟩, fun j hj => ?_⟩, ⟨?_, ?_, ?_, ?_, ?_⟩, fun a j a0 a1 i0 i1 => ?_, zfr_set hf' (zhit_at 2 rfl (by omega))⟩
  · rw [zset_off (by decide)]; exact hs j hj
  · rw [zset_off (by decide)]; exact c1
  · rw [zset_off (by decide)]; exact c2
  · rw [zset_off (by decide)]; exact c3
  · rw [zset_off (by decide)]; exact c4
  · rw [zset_off (by decide)]; exact c5
  · rw [zset_off (by omega)]; exact hq a j a0 a1 i0 i1
/-- one of the frame's numbers changes -/
theorem ps_frm {X0 X : zM} {a w : Int} (h : ps_P B n t f X0 X k L st v lv dp wd gr op wh fk fw tm sg fc) (h0 : 0 ≤ op ∧ op < 10) (ha : a = 241 ∨ a = 242 ∨ a = 243 ∨ a = 244 ∨ a = 245) : ps_P B n t f X0 (zset X a op w) k L st v lv dp wd gr op wh (if a = 241 then w else fk) (if a = 242 then w else fw) (if a = 243 then w else tm) (if a = 244 then w else sg) (if a = 245 then w else fc) := by
  obtain ⟨⟨⟨hM, hT⟩, ⟨a4, a5, b2, b3, b4, b5, b6, b7⟩, hs⟩, ⟨c1, c2, c3, c4, c5⟩, hq, hf'⟩ := h
  have z : ∀ b j, b ≠ a → zset X a op w b j = X b j := fun b j hj => zset_ne (fun y => hj y.1)
  have z2 : ∀ b u, X b op = u → zset X a op w b op = if a = b then w else u := fun b u hu => by
    by_cases c : a = b
    · rw [if_pos c, c, zset_same]
    · rw [if_neg c, z b op (fun y => c y.symm)]; exact hu
  refine ⟨⟨⟨ps_lM hM ⟨by omega, fun _ => by omega⟩, ps_lT hT (fun _ => by omega)⟩, ⟨by rw [z _ _ (by omega)]; exact a4, by rw [z _ _ (by omega)]; exact a5, by rw [z _ _ (by omega)]; exact b2, by rw [z _ _ (by omega)]; exact b3, by rw [z _ _ (by omega)]; exact b4, by rw [z _ _ (by omega)]; exact b5, by rw [z _ _ (by omega)]; exact b6, by rw [z _ _ (by omega)]; exact b7⟩, fun j hj => ?_⟩, ⟨z2 241 _ c1, z2 242 _ c2, z2 243 _ c3, z2 244 _ c4, z2 245 _ c5⟩, fun b j a0 a1 i0 i1 => ?_, ?_⟩
  · rw [z _ _ (by omega), z _ _ (by omega)]; exact hs j hj
  · rw [zset_ne (fun y => by omega)]; exact hq b j a0 a1 i0 i1
  · rcases ha with e | e | e | e | e <;> subst e
    · exact zfr_set hf' (zhit_at 4 rfl (by omega))
    · exact zfr_set hf' (zhit_at 5 rfl (by omega))
    · exact zfr_set hf' (zhit_at 6 rfl (by omega))
    · exact zfr_set hf' (zhit_at 7 rfl (by omega))
    · exact zfr_set hf' (zhit_at 8 rfl (by omega))
/-- the next token -/
theorem m_nx (hG : zP G) {X0 X : zM} (hE : ps_E B n m) (hk : k < m) (h0 : 0 ≤ op ∧ op < 10) (ht : 0 ≤ t ∧ t < 4) (hf : 0 ≤ f ∧ f + L ≤ 300) (h : ps_P B n t f X0 X k L st v lv dp wd gr op wh fk fw tm sg fc) (hh : ∀ X', ps_P B n t f X0 X' (k + 1) L st v lv dp wd gr op wh fk fw tm sg fc → Q (9, 0) X') : Y G (d + 1) mX12_nextToken 0 [(2, 234), (9, 0)] [] X Q := by
  obtain ⟨⟨⟨hM, hT⟩, ⟨a4, a5, b2, b3, b4, b5, b6, b7⟩, hs⟩, ⟨c1, c2, c3, c4, c5⟩, hq, hf'⟩ := h
  refine m_tok hG hE hM hk hT.1 (fun X' f1 m1 t1 => hh X' ?_)
  have z4 : ∀ i, 13 ≤ i → i < 1000 → X' 234 i = X 234 i := fun i i0 i1 => f1 234 i (by unfold zhw zhit; simp; omega)
  have z : ∀ a i, a ≠ 234 → 0 ≤ i → i < 1000000 → X' a i = X a i := fun a i ha i0 i1 => f1 a i (by unfold zhw zhit; simp; omega)
  refine ⟨⟨⟨m1, t1⟩, ⟨by rw [z4 _ (by decide) (by decide)]; exact a4, by rw [z4 _ (by decide) (by decide)]; exact a5, by rw [z4 _ (by decide) (by decide)]; exact b2, by rw [z4 _ (by decide) (by decide)]; exact b3, by rw [z4 _ (by decide) (by decide)]; exact b4, by rw [z4 _ (by decide) (by decide)]; exact b5, by rw [z4 _ (by decide) (by decide)]; exact b6, by rw [z4 _ (by decide) (by decide)]; exact b7⟩, fun i hi => ?_⟩, ⟨?_, ?_, ?_, ?_, ?_⟩, fun a i a0 a1 i0 i1 => ?_, ?_⟩
  · rw [z _ _ (by decide) (by omega) (by omega), z _ _ (by decide) (by omega) (by omega)]; exact hs i hi
  · rw [z _ _ (by decide) (by omega) (by omega)]; exact c1
  · rw [z _ _ (by decide) (by omega) (by omega)]; exact c2
  · rw [z _ _ (by decide) (by omega) (by omega)]; exact c3
  · rw [z _ _ (by decide) (by omega) (by omega)]; exact c4
  · rw [z _ _ (by decide) (by omega) (by omega)]; exact c5
  · rw [z _ _ (by omega) i0 (by omega)]; exact hq a i a0 a1 i0 i1
  · exact zfr_trans hf' (zfr_sub f1 (fun y hy => by rw [List.mem_singleton] at hy; rw [hy]; exact List.mem_cons_self))
end PS3
