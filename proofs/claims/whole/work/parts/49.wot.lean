section WT
variable {G : zG} {d : Nat} {M : zM} {Q : zV → zM → Prop}
theorem zset_off {a b i v : Int} (h : b ≠ a) : zset M a i v b = M b := funext fun x => zset_ne (fun q => h q.1)
def zlg : List Int → Int → Int
  | [], _ => -1
  | a :: l, i => if i = 0 then a else zlg l (i - 1)
theorem zlg_app (e : Int) (l : List Int) : ∀ p : List Int, zlg (p ++ e :: l) p.length = e
  | [] => if_pos rfl
  | a :: p => by
    show (if ((a :: p).length : Int) = 0 then a else zlg (p ++ e :: l) ((a :: p).length - 1)) = e
    have : ((a :: p).length : Int) = p.length + 1 := by rw [List.length_cons]; omega
    rw [this, if_neg (by omega), show (p.length : Int) + 1 - 1 = p.length by omega]
    exact zlg_app e l p
theorem zlg_out : ∀ (l : List Int) (i : Int), ¬ (0 ≤ i ∧ i < l.length) → zlg l i = -1
  | [], _, _ => rfl
  | a :: l, i, h => by
    have : ((a :: l).length : Int) = l.length + 1 := by rw [List.length_cons]; omega
    show (if i = 0 then a else zlg l (i - 1)) = -1
    rw [this] at h
    rw [if_neg (by omega)]
    exact zlg_out l (i - 1) (by omega)
def zwfl (K : (Int → Int) → Bool) (b : Int → Bool) : Nat → (Int → Int) → List Int
  | 0, _ => []
  | n + 1, W => (if K W then [zwi W] else []) ++ (match zwx b 4 W with | none => [] | some W' => zwfl K b n W')
theorem zwfl_len {K : (Int → Int) → Bool} {b : Int → Bool} : ∀ (n : Nat) (W : Int → Int), (zwfl K b n W).length ≤ n
  | 0, _ => Nat.le_refl 0
  | n + 1, W => by
    have q : ∀ o : Option (Int → Int), (match o with | none => [] | some W' => zwfl K b n W' : List Int).length ≤ n := fun o => by
      cases o with
      | none => exact Nat.zero_le _
      | some W' => exact zwfl_len n W'
    show ((if K W then [zwi W] else []) ++ (match zwx b 4 W with | none => [] | some W' => zwfl K b n W')).length ≤ n + 1
    rw [List.length_append]
    have := q (zwx b 4 W)
    by_cases c : K W = true
    · rw [if_pos c]; show 1 + _ ≤ _; omega
    · rw [if_neg c]; show 0 + _ ≤ _; omega
def zal (f : Int → Int) : Nat → Bool
  | 0 => true
  | n + 1 => zal f n && decide (f n = f 0)
theorem zal_iff {f : Int → Int} : ∀ n : Nat, zal f n = true ↔ ∀ i : Int, 0 ≤ i → i < (n : Int) → f i = f 0
  | 0 => ⟨fun _ i i0 i1 => by omega, fun _ => rfl⟩
  | n + 1 => by
    show (zal f n && decide (f n = f 0)) = true ↔ _
    rw [Bool.and_eq_true, zal_iff n, decide_eq_true_eq]
    refine ⟨fun h i i0 i1 => ?_, fun h => ⟨fun i i0 i1 => h i i0 (by omega), h n (by omega) (by omega)⟩⟩
    by_cases c : i = n
    · rw [c]; exact h.2
    · exact h.1 i i0 (by omega)
/-- the class's list of worlds -/
abbrev zwL : List (Int × Int × Int) := [(11, 0, 1000000), (182, 0, 1000000), (183, 0, 1000000), (176, 10, 11)]
theorem s_cwl (hG : zP G) {x3 : Int} (hx : 0 ≤ x3 ∧ x3 ≤ 32767) {K : (Int → Int) → Bool} {T : List Int} (hT : T.length ≤ 10000)
    (hK : ∀ N, zfr zwL M N → zd9 (N 182) → ∀ Q' : zV → zM → Prop, (∀ R, Q' (0, if K (zcw (N 182)) then 1 else 0) (zrow N 11 R)) → Y G (d + 5) mX0_allAnswerAlike 0 [(2, 176), (2, 19), (2, 2), (9, 0), (9, 0)] [] N Q')
    (h : ∀ N, zfr zwL M N → N 176 10 = T.length → (∀ k : Int, 0 ≤ k → k < (T.length : Int) → N 183 k = zlg T k) → Q (0, N 176 10) (zset (zset N 176 11 1) 176 12 (N 2 10))) :
    ∀ (n : Nat) (i x4 : Int) (N : zM) (p : List Int), i + n = 10000 → 0 ≤ i → zfr zwL M N → (x4 = 0 ∧ T = p ∨ x4 = 1 ∧ zd9 (N 182) ∧ T = p ++ zwfl K (zbt x3) n (zcw (N 182))) → N 176 10 = p.length → (∀ k : Int, 0 ≤ k → k < (p.length : Int) → N 183 k = zlg T k) → Y G (d + 6) mX0_countWorlds 93 [(2, 176), (2, 19), (2, 2), (0, x3), (0, x4), (0, i)] [] N Q
  | 0, i, x4, N, p, hi, i0, hN, hp, hc, hF => by
    have e : T = p := by
      rcases hp with ⟨-, e⟩ | ⟨-, -, e⟩
      · exact e
      · rw [e]; exact List.append_nil p
    refine bX0_countWorlds_93 hG ⟨fun _ => h N hN (by rw [e]; exact hc) (fun k k0 k1 => hF k k0 (by rw [← e]; exact k1)), fun c => absurd c (by omega)⟩
  | n + 1, i, x4, N, p, hi, i0, hN, hp, hc, hF => by
    refine bX0_countWorlds_93 hG ⟨fun c => absurd c (by omega), fun _ => ⟨fun c => ?_, fun c => ?_⟩⟩
    · have e : T = p := by
        rcases hp with ⟨-, e⟩ | ⟨z, -⟩
        · exact e
        · omega
      exact h N hN (by rw [e]; exact hc) (fun k k0 k1 => hF k k0 (by rw [← e]; exact k1))
    · obtain ⟨h9, e⟩ : zd9 (N 182) ∧ T = p ++ ((if K (zcw (N 182)) then [zwi (zcw (N 182))] else []) ++ (match zwx (zbt x3) 4 (zcw (N 182)) with | none => [] | some W' => zwfl K (zbt x3) n W')) := by
        rcases hp with ⟨z, -⟩ | ⟨-, e⟩
        · exact absurd z c
        · exact e
      refine hK N hN h9 _ (fun R => ?_)
      have r1 : zrow N 11 R 182 = N 182 := zrow_off (by decide)
      have r2 : zrow N 11 R 176 = N 176 := zrow_off (by decide)
      have r3 : zrow N 11 R 183 = N 183 := zrow_off (by decide)
      have hN1 : zfr zwL M (zrow N 11 R) := zfr_row hN 0 rfl
      have d0 := h9 0 (by omega) (by omega)
      have d1 := h9 1 (by omega) (by omega)
      have d2 := h9 2 (by omega) (by omega)
      have d3 := h9 3 (by omega) (by omega)
      by_cases k : K (zcw (N 182)) = true
      · rw [if_pos k] at e ⊢
        have lp : (p.length : Int) < 10000 := by
          rw [e, List.length_append, List.length_append] at hT
          have : [zwi (zcw (N 182))].length = 1 := rfl
          omega
        refine bX0_countWorlds_112 hG ⟨fun z => absurd z (by decide), fun _ => ?_⟩
        rw [r1, r2, hc]
        refine ⟨by omega, by omega, by omega, by omega, by omega, by omega, by omega, by omega, ?_⟩
        have fin : ∀ (x4 : Int) (W : Int → Int), (x4 = 0 ∧ T = p ++ [zwi (N 182)] ∨ x4 = 1 ∧ zd9 W ∧ T = (p ++ [zwi (N 182)]) ++ zwfl K (zbt x3) n (zcw W)) → Y G (d + 6) mX0_countWorlds 93 [(2, 176), (2, 19), (2, 2), (0, x3), (0, x4), (0, i + 1)] [] (zrow (zset (zset (zrow N 11 R) 183 (p.length : Int) (((((N 182 0) * 1000) + ((N 182 1) * 100)) + ((N 182 2) * 10)) + (N 182 3))) 176 10 ((p.length : Int) + 1)) 182 W) Q := fun x4 W hT2 => by
          have lq : (p ++ [zwi (N 182)]).length = p.length + 1 := by rw [List.length_append]; rfl
          refine s_cwl hG hx hT hK h n (i + 1) x4 _ (p ++ [zwi (N 182)]) (by omega) (by omega) (zfr_row (zfr_set (zfr_set hN1 (zhit_at 2 rfl ⟨by omega, by omega⟩)) (zhit_at 3 rfl ⟨by decide, by decide⟩)) 1 rfl) ?_ ?_ (fun k k0 k1 => ?_)
          · rw [zrow_row]; exact hT2
          · rw [lq]; simp only [zset_ap, zrow_ap, Int.reduceEq, ↓reduceIte]; omega
          · rw [lq] at k1
            simp only [zset_ap, zrow_ap, Int.reduceEq, ↓reduceIte]
            by_cases q : k = p.length
            · rw [if_pos q, q]
              have tt : ∃ l, T = p ++ zwi (N 182) :: l := by
                rcases hT2 with ⟨-, w⟩ | ⟨-, w⟩
                · exact ⟨[], w⟩
                · exact ⟨_, w.2.trans (List.append_assoc _ _ _)⟩
              obtain ⟨l, w⟩ := tt
              rw [w, zlg_app]; rfl
            · rw [if_neg q]; exact hF k k0 (by omega)
        rw [zwi_cw] at e
        refine s_cnext hG hx ?_ (fun W' hw h9' => ?_) (fun hw W' => ?_)
        · simp only [zset_off (show (182 : Int) ≠ 176 by decide), zset_off (show (182 : Int) ≠ 183 by decide), r1]; exact h9
        · simp only [zset_off (show (182 : Int) ≠ 176 by decide), zset_off (show (182 : Int) ≠ 183 by decide), r1] at hw
          rw [hw] at e
          exact bX0_countWorlds_176 hG ⟨by omega, fin 1 W' (Or.inr ⟨rfl, h9', e.trans (List.append_assoc _ _ _).symm⟩)⟩
        · simp only [zset_off (show (182 : Int) ≠ 176 by decide), zset_off (show (182 : Int) ≠ 183 by decide), r1] at hw
          rw [hw] at e
          exact bX0_countWorlds_176 hG ⟨by omega, fin 0 W' (Or.inl ⟨rfl, e⟩)⟩
      · rw [if_neg k] at e ⊢
        refine bX0_countWorlds_112 hG ⟨fun _ => ?_, fun z => absurd rfl z⟩
        refine s_cnext hG hx (by rw [r1]; exact h9) (fun W' hw h9' => ?_) (fun hw W' => ?_)
        · rw [r1] at hw
          rw [hw] at e
          refine bX0_countWorlds_176 hG ⟨by omega, s_cwl hG hx hT hK h n (i + 1) 1 _ p (by omega) (by omega) (zfr_row hN1 1 rfl) (Or.inr ⟨rfl, by rw [zrow_row]; exact h9', by rw [zrow_row]; exact e⟩) ?_ (fun k k0 k1 => ?_)⟩
          · rw [zrow_off (show (176 : Int) ≠ 182 by decide), r2]; exact hc
          · rw [zrow_off (show (183 : Int) ≠ 182 by decide), r3]; exact hF k k0 k1
        · rw [r1] at hw
          rw [hw] at e
          refine bX0_countWorlds_176 hG ⟨by omega, s_cwl hG hx hT hK h n (i + 1) 0 _ p (by omega) (by omega) (zfr_row hN1 1 rfl) (Or.inl ⟨rfl, e.trans (List.append_nil p)⟩) ?_ (fun k k0 k1 => ?_)⟩
          · rw [zrow_off (show (176 : Int) ≠ 182 by decide), r2]; exact hc
          · rw [zrow_off (show (183 : Int) ≠ 182 by decide), r3]; exact hF k k0 k1
/-- the model's count of worlds, or one of them -/
abbrev zwN : List (Int × Int × Int) := [(249, 0, 1000000), (250, 0, 1000000)]
theorem s_mwl (hG : zP G) {x1 x2 v : Int} {b : Int → Bool} (hb : ∀ t, 0 ≤ t → t < 4 → zbt x2 t = b t) (hx : 0 ≤ x2 ∧ x2 ≤ 32767) {K : (Int → Int) → Bool}
    (hK : ∀ N, zfr zwN M N → zd9 (N 249) → ∀ Q' : zV → zM → Prop, (∀ R, Q' (0, if K (zcw (N 249)) then 1 else 0) (zrow N 250 R)) → Y G (d + 3) mX12_isOneAnswer 0 [(2, 234), (9, 0), (9, 0), (9, 0), (9, 0), (9, 0)] [] N Q')
    (h : ∀ N, zfr zwN M N → Q (0, v) N) :
    ∀ (n : Nat) (x3 : Int) (N : zM), 10000 ≤ zwi (N 249) + n → (0 ≤ x3 ∧ x3 + n ≤ 20000) → zfr zwN M N → zd9 (N 249) → (x1 = -1 ∨ x3 ≤ x1) → (v = if x1 = -1 then x3 + (zwfl K b n (zcw (N 249))).length else zlg (zwfl K b n (zcw (N 249))) (x1 - x3)) → Y G (d + 4) mX12_worlds 63 [(2, 234), (0, x1), (0, x2), (0, x3), (0, 1)] [] N Q
  | 0, x3, N, hi, hx3, hN, h9, hx1, hv => absurd (zwi_9 h9) (by omega)
  | n + 1, x3, N, hi, hx3, hN, h9, hx1, hv => by
    refine bX12_worlds_63 hG ⟨fun c => absurd c (by decide), fun _ => ?_⟩
    refine hK N hN h9 _ (fun R => ?_)
    have r1 : zrow N 250 R 249 = N 249 := zrow_off (by decide)
    have hN1 : zfr zwN M (zrow N 250 R) := zfr_row hN 1 rfl
    have d0 := h9 0 (by omega) (by omega)
    have d1 := h9 1 (by omega) (by omega)
    have d2 := h9 2 (by omega) (by omega)
    have d3 := h9 3 (by omega) (by omega)
    have e : zwfl K b (n + 1) (zcw (N 249)) = (if K (zcw (N 249)) then [zwi (zcw (N 249))] else []) ++ (match zwx b 4 (zcw (N 249)) with | none => [] | some W' => zwfl K b n W') := rfl
    rw [e] at hv
    have go : ∀ y3 : Int, (0 ≤ y3 ∧ y3 + n ≤ 20000) → (x1 = -1 ∨ y3 ≤ x1) → (∀ l : List Int, l = (match zwx b 4 (zcw (N 249)) with | none => [] | some W' => zwfl K b n W') → v = if x1 = -1 then y3 + l.length else zlg l (x1 - y3)) → Y G (d + 3) mX12_nextWorld 0 [(2, 234), (0, x2), (9, 0)] [] (zrow N 250 R) (fun r M' => Y G (d + 4) mX12_worlds 126 [(2, 234), (0, x1), (0, x2), (0, y3), (0, 1)] (zpush r []) M' Q) := fun y3 hy hx1 hv => by
      refine s_mnext hG hb hx (by rw [r1]; exact h9) (fun W' hw h9' => ?_) (fun hw W' => ?_)
      · rw [r1] at hw
        have lt := zwx_lt (zd9_cw h9) hw
        rw [zwi_cw, zwi_cw] at lt
        rw [hw] at hv
        refine bX12_worlds_126 hG (s_mwl hG hb hx hK h n y3 _ ?_ (by omega) (zfr_row hN1 0 rfl) ?_ hx1 ?_)
        · rw [zrow_row]; omega
        · rw [zrow_row]; exact h9'
        · rw [zrow_row]; exact hv _ rfl
      · rw [r1] at hw
        rw [hw] at hv
        have q := hv [] rfl
        have q2 := h _ (zfr_row (f := W') hN1 0 rfl)
        refine bX12_worlds_126 hG (bX12_worlds_63 hG ⟨fun _ => ⟨fun c => ?_, fun c => ?_⟩, fun z => absurd rfl z⟩)
        · rw [if_neg c] at q
          rw [q] at q2; exact q2
        · rw [if_pos c] at q
          have : v = y3 := by rw [q]; exact Int.add_zero _
          rw [this] at q2; exact q2
    by_cases k : K (zcw (N 249)) = true
    · rw [if_pos k] at hv ⊢
      refine bX12_worlds_72 hG ⟨fun z => absurd z (by decide), fun _ => ⟨fun c => ⟨by omega, go (x3 + 1) (by omega) (by omega) (fun l hl => ?_)⟩, fun c => ?_⟩⟩
      · rw [← hl] at hv
        rw [hv]
        by_cases c1 : x1 = -1
        · rw [if_pos c1, if_pos c1]
          have : ([zwi (zcw (N 249))] ++ l).length = l.length + 1 := rfl
          rw [this]; omega
        · rw [if_neg c1, if_neg c1]
          show (if x1 - x3 = 0 then _ else zlg l (x1 - x3 - 1)) = _
          rw [if_neg (by omega), show x1 - x3 - 1 = x1 - (x3 + 1) by omega]
      · rw [r1]
        refine ⟨by omega, by omega, by omega, by omega, by omega, by omega, ?_⟩
        have q2 := h _ hN1
        rw [if_neg (by omega)] at hv
        have : v = zwi (zcw (N 249)) := by
          rw [hv]
          show (if x1 - x3 = 0 then _ else _) = _
          rw [if_pos (by omega)]
        rw [this, zwi_cw] at q2
        exact q2
    · rw [if_neg k] at hv ⊢
      exact bX12_worlds_72 hG ⟨fun _ => go x3 (by omega) hx1 (fun l hl => by rw [← hl] at hv; exact hv), fun z => absurd rfl z⟩
/-! are all answers one? -/
theorem s_moa (hG : zP G) {f : Int → Int} {n : Nat} (hn : M 235 7 = n) (hn8 : n ≤ 8)
    (hf : ∀ (i : Int) (R : Int → Int), 0 ≤ i → i < n → ∀ Q' : zV → zM → Prop, (∀ R2, Q' (1, f i) (zrow M 250 R2)) → Y G (d + 2) mX12_answerOf 0 [(2, 234), (0, M 235 (116 + 2 * i + 1)), (9, 0), (9, 0), (9, 0), (9, 0), (9, 0), (9, 0), (9, 0), (9, 0)] [] (zrow M 250 R) Q')
    (h : ∀ R, Q (0, if zal f n then 1 else 0) (zrow M 250 R)) : ∀ (k i : Nat) (x1 : Int) (R : Int → Int), i + k = n → (∀ j, 0 ≤ j → j < (i : Int) → f j = f 0) → (0 < i → x1 = f 0) → Y G (d + 3) mX12_isOneAnswer 4 [(2, 234), (1, x1), (9, 0), (0, (i : Int)), (9, 0), (9, 0)] [] (zrow M 250 R) Q
  | 0, i, x1, R, hi, ha, hx => by
    have q := h R
    rw [if_pos ((zal_iff n).mpr (fun j j0 j1 => ha j j0 (by omega)))] at q
    refine bX12_isOneAnswer_4 hG ⟨fun _ => q, fun c => absurd c ?_⟩
    rw [zrow_off (show (235 : Int) ≠ 250 by decide), hn]; omega
  | k + 1, i, x1, R, hi, ha, hx => by
    refine bX12_isOneAnswer_4 hG ?_
    rw [zrow_off (show (235 : Int) ≠ 250 by decide), hn]
    refine ⟨fun c => absurd c (by omega), fun _ => ⟨by omega, by omega, by omega, by omega, ?_⟩⟩
    refine hf i R (by omega) (by omega) _ (fun R2 => ?_)
    refine bX12_isOneAnswer_32 hG ⟨fun c => ⟨by omega, ?_⟩, fun c => ⟨fun c2 => ⟨by omega, ?_⟩, fun c2 => ?_⟩⟩
    · have : i = 0 := by omega
      subst this
      exact s_moa hG hn hn8 hf h k 1 _ R2 (by omega) (fun j j0 j1 => by rw [show j = 0 by omega]) (fun _ => rfl)
    · rw [zlcmp_eq, hx (by omega)] at c2
      refine s_moa hG hn hn8 hf h k (i + 1) _ R2 (by omega) (fun j j0 j1 => ?_) (fun _ => c2)
      by_cases q : j = i
      · rw [q]; exact c2
      · exact ha j j0 (by omega)
    · rw [zlcmp_eq, hx (by omega)] at c2
      have q := h R2
      rw [if_neg (fun z => c2 ((zal_iff n).mp z i (by omega) (by omega)))] at q
      exact q
theorem s_coa (hG : zP G) {g : Int → Int} {m : Nat} (hn : M 176 4 = m) (hm8 : m ≤ 8)
    (hf : ∀ (i : Int) (R : Int → Int), 0 ≤ i → i < m → ∀ Q' : zV → zM → Prop, (∀ R2, Q' (0, g i) (zrow M 11 R2)) → Y G (d + 4) mX3_answerIn 0 [(2, 19), (0, M 179 i), (2, 2), (2, 182), (9, 0)] [] (zrow M 11 R) Q')
    (h : ∀ R, Q (0, if zal g m then 1 else 0) (zrow M 11 R)) : Y G (d + 5) mX0_allAnswerAlike 0 [(2, 176), (2, 19), (2, 2), (9, 0), (9, 0)] [] M Q := by
  have lp : ∀ (k i : Nat) (R : Int → Int), i + k = m → 1 ≤ i → (∀ j, 0 ≤ j → j < (i : Int) → g j = g 0) → Y G (d + 5) mX0_allAnswerAlike 29 [(2, 176), (2, 19), (2, 2), (0, g 0), (0, (i : Int))] [] (zrow M 11 R) Q := fun k => by
    induction k with
    | zero =>
      intro i R hi i1 ha
      have q := h R
      rw [if_pos ((zal_iff m).mpr (fun j j0 j1 => ha j j0 (by omega)))] at q
      refine bX0_allAnswerAlike_29 hG ⟨fun _ => q, fun c => absurd c ?_⟩
      rw [zrow_off (show (176 : Int) ≠ 11 by decide), hn]; omega
    | succ k ih =>
      intro i R hi i1 ha
      refine bX0_allAnswerAlike_29 hG ?_
      rw [zrow_off (show (176 : Int) ≠ 11 by decide), zrow_off (show (179 : Int) ≠ 11 by decide), hn]
      refine ⟨fun c => absurd c (by omega), fun _ => ⟨by omega, ?_⟩⟩
      refine hf i R (by omega) (by omega) _ (fun R2 => ?_)
      refine bX0_allAnswerAlike_54 hG ⟨fun c => ⟨by omega, ?_⟩, fun c => ?_⟩
      · refine ih (i + 1) R2 (by omega) (by omega) (fun j j0 j1 => ?_)
        by_cases q : j = i
        · rw [q]; exact c
        · exact ha j j0 (by omega)
      · have q := h R2
        rw [if_neg (fun z => c ((zal_iff m).mp z i (by omega) (by omega)))] at q
        exact q
  refine bX0_allAnswerAlike_0 hG ?_
  rw [hn]
  refine ⟨fun c => ?_, fun c => ?_⟩
  · have := hf 0 (M 11) (by omega) (by omega)
    rw [zrow_self] at this
    exact this _ (fun R2 => bX0_allAnswerAlike_25 hG (lp (m - 1) 1 R2 (by omega) (by omega) (fun j j0 j1 => by rw [show j = 0 by omega])))
  · have q := h (M 11)
    rw [if_pos ((zal_iff m).mpr (fun j j0 j1 => by rw [show j = 0 by omega])), zrow_self] at q
    exact q
/-- what was heard, each once -/
theorem s_unl (hG : zP G) {x : Int} {m : Nat} (hm : M 176 4 = m) (hm8 : m < 8) (h1 : (∃ k, 0 ≤ k ∧ k < (m : Int) ∧ M 179 k = x) → Q (9, 0) M) (h0 : Q (9, 0) (zset (zset M 179 m x) 176 4 (m + 1))) : ∀ (k i : Nat), i + k = m → Y G d mX0_addUnlike 2 [(2, 176), (0, x), (0, (i : Int))] [] M Q
  | 0, i, hi => by
    refine bX0_addUnlike_2 hG ?_
    rw [hm]
    exact ⟨fun _ => ⟨fun c => absurd c (by omega), fun _ => ⟨by omega, by omega, h0⟩⟩, fun c => absurd c (by omega)⟩
  | k + 1, i, hi => by
    refine bX0_addUnlike_2 hG ?_
    rw [hm]
    exact ⟨fun c => absurd c (by omega), fun _ => ⟨by omega, fun c => ⟨by omega, s_unl hG hm hm8 h1 h0 k (i + 1) (by omega)⟩, fun c => h1 ⟨i, by omega, by omega, c⟩⟩⟩
def zwm (w h : Int → Int) : Nat → Int
  | 0 => 0
  | n + 1 => zor (zwm w h n) (w (h n))
theorem zwm_b {w h : Int → Int} : ∀ n : Nat, (∀ i, 0 ≤ i → i < (n : Int) → 0 ≤ w (h i) ∧ w (h i) ≤ 32767) → 0 ≤ zwm w h n ∧ zwm w h n ≤ 32767
  | 0, _ => by show (0 : Int) ≤ 0 ∧ (0 : Int) ≤ 32767; decide
  | n + 1, hw => (zbt_or (t := 0) (zwm_b n (fun i i0 i1 => hw i i0 (by omega))) (hw n (by omega) (by omega))).1
/-- the lists of the same questions -/
def zswl (u h : Int → Int) (m n : Int) : Prop := (∀ k, 0 ≤ k → k < m → ∃ j, 0 ≤ j ∧ j < n ∧ u k = h j) ∧ ∀ j, 0 ≤ j → j < n → ∃ k, 0 ≤ k ∧ k < m ∧ u k = h j
theorem zswl_al {u h F : Int → Int} {m n : Nat} (hs : zswl u h (m : Int) (n : Int)) : zal (fun k => F (u k)) m = zal (fun j => F (h j)) n := by
  rw [Bool.eq_iff_iff, zal_iff, zal_iff]
  constructor
  · intro q i i0 i1
    obtain ⟨k, k0, k1, e⟩ := hs.2 i i0 i1
    obtain ⟨k', k0', k1', e'⟩ := hs.2 0 (by omega) (by omega)
    have a := q k k0 k1
    have b := q k' k0' k1'
    show F (h i) = F (h 0)
    rw [← e, ← e']
    exact a.trans b.symm
  · intro q k k0 k1
    obtain ⟨j, j0, j1, e⟩ := hs.1 k k0 k1
    obtain ⟨j', j0', j1', e'⟩ := hs.1 0 (by omega) (by omega)
    show F (u k) = F (u 0)
    rw [e, e']
    exact (q j j0 j1).trans (q j' j0' j1').symm
theorem zal_c {f g : Int → Int} : ∀ n : Nat, (∀ i, 0 ≤ i → i < (n : Int) → f i = g i) → zal f n = zal g n
  | 0, _ => rfl
  | n + 1, h => by
    show (zal f n && decide (f n = f 0)) = (zal g n && decide (g n = g 0))
    rw [zal_c n (fun i i0 i1 => h i i0 (by omega)), h n (by omega) (by omega), h 0 (by omega) (by omega)]
theorem zwm_c {w w' h h' : Int → Int} : ∀ n : Nat, (∀ i, 0 ≤ i → i < (n : Int) → w' (h' i) = w (h i)) → zwm w' h' n = zwm w h n
  | 0, _ => rfl
  | n + 1, e => by
    show zor (zwm w' h' n) (w' (h' n)) = zor (zwm w h n) (w (h n))
    rw [zwm_c n (fun i i0 i1 => e i i0 (by omega)), e n (by omega) (by omega)]
/-- the i-th question heard -/
def zhq (M : zM) (i : Int) : Int := M 235 (117 + 2 * i)
def zKK (M : zM) (W : Int → Int) : Bool := zal (fun i => zaM M W (zhq M i)) (M 235 7).toNat
def zwb (M : zM) : Int := zwm (M 25) (zhq M) (M 235 7).toNat
def zTT (M : zM) : List Int := zwfl (zKK M) (zbt (zwb M)) 10000 (fun _ => 0)
def zFd (M N : zM) : Prop := N 176 10 = (zTT M).length ∧ ∀ k : Int, 0 ≤ k → k < ((zTT M).length : Int) → N 183 k = zlg (zTT M) k
def zJF (M : zM) : Prop := M 176 12 ≤ M 2 10 ∧ (M 176 11 = 0 ∨ M 176 12 ≠ M 2 10 ∨ zFd M M)
theorem zTT_e {M' : zM} (h7 : M' 235 7 = M 235 7) (hh : ∀ i, 0 ≤ i → i < M 235 7 → zhq M' i = zhq M i ∧ M' 25 (zhq M i) = M 25 (zhq M i) ∧ ∀ W, zaM M' W (zhq M i) = zaM M W (zhq M i)) : zTT M' = zTT M := by
  have k : zKK M' = zKK M := by
    funext W
    unfold zKK
    rw [h7]
    refine zal_c _ (fun i i0 i1 => ?_)
    obtain ⟨e1, e2, e3⟩ := hh i i0 (by omega)
    show zaM M' W (zhq M' i) = zaM M W (zhq M i)
    rw [e1, e3]
  have w : zwb M' = zwb M := by
    unfold zwb
    rw [h7]
    refine zwm_c _ (fun i i0 i1 => ?_)
    obtain ⟨e1, e2, e3⟩ := hh i i0 (by omega)
    rw [e1, e2]
  unfold zTT
  rw [k, w]
theorem zV7_q {A : Int → Int} (h : zVA A) : ∀ i, 0 ≤ i → i < A 7 → 0 ≤ A (117 + 2 * i) ∧ A (117 + 2 * i) < A 0 := fun i i0 i1 => by
  obtain ⟨h0, h1, h2, h3, h4, h5, h6, h7, -⟩ := h
  exact (h7.2 i i0 i1).2
def zSF : List (Int × Int × Int) := [(176, 10, 13), (183, 0, 10000), (2, 10, 11), (235, 0, 2), (235, 7, 8), (235, 14, 74), (235, 116, 132), (246, 0, 12), (247, 0, 2880), (25, 0, 12)]
theorem zTT_c {M' : zM} (h : zsm zSF M M') (hA : zVA (M 235)) (j16 : zJ16 M) : zTT M' = zTT M := by
  have n8 := (hA.2.2.2.2.2.2.2.1).1
  refine zTT_e (h _ _ (zhit_at 4 rfl ⟨by decide, by decide⟩)) (fun i i0 i1 => ?_)
  have q := zV7_q hA i i0 i1
  have a0 := hA.1.2
  have e1 : zhq M' i = zhq M i := h 235 _ (zhit_at 6 rfl ⟨by omega, by omega⟩)
  refine ⟨e1, h 25 _ (zhit_at 9 rfl ⟨q.1, by unfold zhq; omega⟩), fun W => zaM_e hA ?_ (h _ _ (zhit_at 3 rfl ⟨by decide, by decide⟩)) (fun i i0 i1 => h _ _ (zhit_at 5 rfl ⟨i0, i1⟩)) (h _ _ (zhit_at 7 rfl ⟨q.1, by unfold zhq; omega⟩)) (fun i i0 i1 => h _ _ (zhit_at 8 rfl ⟨by unfold zhq; omega, by unfold zhq; omega⟩))⟩
  have := (j16 _ q.1 q.2).2.1
  unfold zhq; omega
theorem zJF_c {M' : zM} (h : zsm zSF M M') (hA : zVA (M 235)) (j16 : zJ16 M) (j : zJF M) : zJF M' := by
  have e : zTT M' = zTT M := zTT_c h hA j16
  have l : (zTT M).length ≤ 10000 := zwfl_len 10000 _
  unfold zJF zFd
  rw [e, h 176 10 (zhit_at 0 rfl ⟨by decide, by decide⟩), h 176 11 (zhit_at 0 rfl ⟨by decide, by decide⟩), h 176 12 (zhit_at 0 rfl ⟨by decide, by decide⟩), h 2 10 (zhit_at 2 rfl ⟨by decide, by decide⟩)]
  refine ⟨j.1, ?_⟩
  rcases j.2 with a | a | a
  · exact Or.inl a
  · exact Or.inr (Or.inl a)
  · refine Or.inr (Or.inr ⟨a.1, fun k k0 k1 => ?_⟩)
    rw [h 183 k (zhit_at 1 rfl ⟨k0, by omega⟩)]
    exact a.2 k k0 k1
end WT
