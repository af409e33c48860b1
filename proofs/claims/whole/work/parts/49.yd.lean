section YD
variable {G : zG} {d : Nat} {M : zM} {Q : zV → zM → Prop}
def zqL : List zPe → Int → Int
  | [], x => x
  | p :: ps, _ => zqL ps p.1.1
theorem zqL_s (q : zPe) : ∀ (ps : List zPe) (x : Int), zqL (ps ++ [q]) x = q.1.1
  | [], _ => rfl
  | p :: ps, _ => zqL_s q ps p.1.1
theorem zqL_m : ∀ (ps : List zPe) (x : Int), ps ≠ [] → ∃ p ∈ ps, p.1.1 = zqL ps x
  | [], _, h => absurd rfl h
  | [p], _, _ => ⟨p, List.mem_cons_self .., rfl⟩
  | p :: q :: ps, _, _ => by
    obtain ⟨r, h1, h2⟩ := zqL_m (q :: ps) p.1.1 (List.cons_ne_nil _ _)
    exact ⟨r, List.mem_cons_of_mem _ h1, h2⟩
theorem zqN_s {o : Int} {q : zPe} : ∀ (ps : List zPe) (y x : Int), zqN M o y ps → (ps = [] → y = q.1.1) → (ps ≠ [] → M (o + 7) (zqL ps x) = q.1.1) → zqN M o y (ps ++ [q])
  | [], y, _, _, h, _ => ⟨h rfl, trivial⟩
  | [p], y, _, h, _, h2 => ⟨h.1, h2 (List.cons_ne_nil _ _), trivial⟩
  | p :: r :: ps, y, x, h, _, h2 => ⟨h.1, zqN_s (r :: ps) _ p.1.1 h.2 (fun z => absurd z (List.cons_ne_nil _ _)) (fun _ => h2 (List.cons_ne_nil _ _))⟩
theorem zqD_t {lo hi : Int} : ∀ ps : List zPe, zqD lo hi ps → ∀ p ∈ ps, ∀ t ∈ ps, ¬ (p.1.1 < t.1.1 ∧ t.1.1 < p.1.2)
  | [], _, p, hp, _, _ => (List.not_mem_nil hp).elim
  | r :: ps, h, p, hp, t, ht => by
    have h2 := List.pairwise_cons.mp h.2
    rcases List.mem_cons.mp hp with e1 | e1
    · rcases List.mem_cons.mp ht with e2 | e2
      · rw [e1, e2]; omega
      · have w := h.1 t ht
        have := h2.1 t e2
        unfold zqJ at this
        rw [e1]; omega
    · rcases List.mem_cons.mp ht with e2 | e2
      · have w := h.1 p hp
        have w2 := h.1 t ht
        have := h2.1 p e1
        unfold zqJ at this
        rw [e2]; rw [e2] at w2; omega
      · exact zqD_t ps ⟨fun x hx => h.1 x (List.mem_cons_of_mem _ hx), h2.2⟩ p e1 t e2
/-- what a change of one whole and its parts may touch -/
def zqK (o w : Int) (T : Int → Prop) (M M' : zM) : Prop := ∀ a i, M' a i = M a i ∨ ((a = o + 1 ∨ a = o + 2 ∨ a = o + 4 ∨ a = o + 5 ∨ a = o + 6) ∧ i = w) ∨ ((a = o + 3 ∨ a = o + 7) ∧ T i) ∨ a = o + 8
theorem zqK_rf {o w : Int} {T : Int → Prop} : zqK o w T M M := fun _ _ => Or.inl rfl
theorem zqK_tr {o w : Int} {T : Int → Prop} {M1 M2 : zM} (h1 : zqK o w T M M1) (h2 : zqK o w T M1 M2) : zqK o w T M M2 := fun a i => by
  rcases h2 a i with q | q
  · rcases h1 a i with r | r
    · exact Or.inl (q.trans r)
    · exact Or.inr r
  · exact Or.inr q
theorem zqK_mo {o w : Int} {T T' : Int → Prop} {M1 : zM} (hT : ∀ i, T i → T' i) (h : zqK o w T M M1) : zqK o w T' M M1 := fun a i => by
  rcases h a i with q | q | q | q
  · exact Or.inl q
  · exact Or.inr (Or.inl q)
  · exact Or.inr (Or.inr (Or.inl ⟨q.1, hT i q.2⟩))
  · exact Or.inr (Or.inr (Or.inr q))
theorem zqE_K {o w : Int} {T : Int → Prop} {M' : zM} (h : zqK o w T M M') {n : Nat} {x hh : Int} {e : List Int} (hw : w < x) (ht : ∀ i, x < i → i < hh → ¬ T i) (q : zqE M o n x hh e) : zqE M' o n x hh e := by
  refine zqE_c n x hh e (fun i i0 i1 => ?_) (fun i i0 i1 => ?_) q
  · have g : ∀ a, (a = o + 1 ∨ a = o + 2 ∨ a = o + 4 ∨ a = o + 5) → M' a i = M a i := fun a ha => by
      rcases h a i with q | q | q | q
      · exact q
      · omega
      · omega
      · omega
    exact ⟨g _ (Or.inl rfl), g _ (Or.inr (Or.inl rfl)), g _ (Or.inr (Or.inr (Or.inl rfl))), g _ (Or.inr (Or.inr (Or.inr rfl)))⟩
  · have g : ∀ a, (a = o + 3 ∨ a = o + 7) → M' a i = M a i := fun a ha => by
      rcases h a i with q | q | q | q
      · exact q
      · omega
      · exact absurd q.2 (ht i i0 i1)
      · omega
    exact ⟨g _ (Or.inl rfl), g _ (Or.inr rfl)⟩
/-- a piece stands -/
def zqP (M : zM) (o : Int) (n : Nat) (p : zPe) : Prop := zqE M o n p.1.1 p.1.2 p.2.2 ∧ M (o + 3) p.1.1 = 1 - 2 * p.2.1
/-- a whole with its parts -/
def zqW (M : zM) (o w k v top : Int) (n : Nat) (ps : List zPe) : Prop := (M (o + 1) w = k ∧ M (o + 2) w = v) ∧ (M (o + 4) w = ps.length ∧ ps.length ≤ 16) ∧ zqN M o (M (o + 5) w) ps ∧ M (o + 6) w = zqL ps (-1) ∧ zqD w top ps ∧ (∀ p ∈ ps, zqP M o n p) ∧ (0 ≤ w ∧ w < top ∧ top ≤ M o 8 ∧ M o 8 ≤ 300)
theorem zqW_E {o w k v top : Int} {n : Nat} {ps : List zPe} (h : zqW M o w k v top n ps) (g : zng k (zq2 ps)) (hv : 2 ≤ k ∧ k ≤ 9 → v = 0) : zqE M o (n + 1) w top (znh k v (zq2 ps)) := by
  obtain ⟨⟨h1, h2⟩, h3, h4, -, h6, h7, h8⟩ := h
  exact ⟨by omega, ps, by rw [h1]; exact g, by rw [h1, h2], by rw [h1, h2]; exact hv, h3, h4, h6, h7⟩
theorem s_append (hG : zP G) {o w k v top : Int} {n : Nat} {ps : List zPe} {q : zPe} (ho : zND o) (hW : zqW M o w k v top n ps) (hD : zqD w top (ps ++ [q])) (hq : zqE M o n q.1.1 q.1.2 q.2.2) (hl : ps.length < 16) (h : ∀ M', zqK o w (fun i => ∃ p ∈ ps ++ [q], p.1.1 = i) M M' → M' o 8 = M o 8 → (∀ i, M' (o + 8) i = M (o + 8) i) → zqW M' o w k v top n (ps ++ [q]) → Q (9, 0) M') : Y G d mX1_append 0 [(2, o), (0, w), (0, q.1.1), (0, 1 - 2 * q.2.1), (9, 0)] [] M Q := by
  obtain ⟨⟨h1, h2⟩, ⟨h3, h3'⟩, h4, h5, h6, h7, h8⟩ := hW
  have hm : q ∈ ps ++ [q] := List.mem_append_right _ (List.mem_cons_self ..)
  have qd := hD.1 q hm
  have tt := zqD_t _ hD
  have ln : (ps ++ [q]).length = ps.length + 1 := by rw [List.length_append]; rfl
  -- what it comes to, whichever way
  have fin : ∀ M', zqK o w (fun i => ∃ p ∈ ps ++ [q], p.1.1 = i) M M' → M' o 8 = M o 8 → (∀ i, M' (o + 8) i = M (o + 8) i) → M' (o + 1) w = M (o + 1) w → M' (o + 2) w = M (o + 2) w → M' (o + 4) w = M (o + 4) w + 1 → M' (o + 6) w = q.1.1 → (ps = [] → M' (o + 5) w = q.1.1) → (ps ≠ [] → M' (o + 5) w = M (o + 5) w ∧ M' (o + 7) (zqL ps (-1)) = q.1.1) → M' (o + 3) q.1.1 = 1 - 2 * q.2.1 → (∀ i, i ≠ q.1.1 → M' (o + 3) i = M (o + 3) i) → (∀ i, i ≠ q.1.1 → i ≠ zqL ps (-1) → M' (o + 7) i = M (o + 7) i) → Q (9, 0) M' := fun M' hK e8 e88 e1 e2 e4 e6 e5 e7 e3 e3' e7' => by
    have fs : ∀ p ∈ ps, p.1.1 ≠ q.1.1 := fun p hp => by
      have pj := (List.pairwise_append.mp hD.2).2.2 p hp q (List.mem_cons_self ..)
      have w1 := hD.1 p (List.mem_append_left _ hp)
      unfold zqJ at pj
      omega
    refine h M' hK e8 e88 ⟨⟨by rw [e1]; exact h1, by rw [e2]; exact h2⟩, ⟨by rw [e4, h3, ln]; omega, by omega⟩, ?_, by rw [e6, zqL_s], hD, fun p hp => ?_, by rw [e8]; exact h8⟩
    · by_cases c : ps = []
      · subst c
        exact ⟨e5 rfl, trivial⟩
      · obtain ⟨x1, x2⟩ := e7 c
        rw [x1]
        refine zqN_s ps _ (-1) ?_ (fun z => absurd z c) (fun _ => x2)
        -- the chain before its last
        have gen : ∀ (l : List zPe) (y x : Int), (∀ p ∈ l, p ∈ ps) → l.Pairwise (fun a b => a.1.1 ≠ b.1.1) → zqL l x = zqL ps (-1) → zqN M o y l → zqN M' o y l := fun l => by
          induction l with
          | nil => exact fun _ _ _ _ _ _ => trivial
          | cons p l ih =>
            intro y x hm pw hL hn
            refine ⟨hn.1, ?_⟩
            cases l with
            | nil => exact trivial
            | cons r l =>
              have pw' := List.pairwise_cons.mp pw
              obtain ⟨z, z1, z2⟩ := zqL_m (r :: l) p.1.1 (List.cons_ne_nil _ _)
              have ne : p.1.1 ≠ zqL ps (-1) := by
                rw [← hL]
                show p.1.1 ≠ zqL (r :: l) p.1.1
                rw [← z2]
                exact pw'.1 z z1
              rw [e7' p.1.1 (fs p (hm p (List.mem_cons_self ..))) ne]
              exact ih _ p.1.1 (fun s hs => hm s (List.mem_cons_of_mem _ hs)) pw'.2 hL hn.2
        refine gen ps _ (-1) (fun p hp => hp) ?_ rfl h4
        refine List.Pairwise.imp_of_mem (fun {a b} ha hb hj => ?_) h6.2
        have w1 := h6.1 a ha
        have w2 := h6.1 b hb
        unfold zqJ at hj
        omega
    · have pd := hD.1 p hp
      have keep : zqE M o n p.1.1 p.1.2 p.2.2 → zqE M' o n p.1.1 p.1.2 p.2.2 := fun z => zqE_K hK pd.1 (fun i i0 i1 ⟨t, t1, t2⟩ => tt p hp t t1 (by rw [t2]; exact ⟨i0, i1⟩)) z
      rcases List.mem_append.mp hp with z | z
      · exact ⟨keep (h7 p z).1, by rw [e3' _ (fs p z)]; exact (h7 p z).2⟩
      · have : p = q := List.mem_singleton.mp z
        subst this
        exact ⟨keep hq, e3⟩
  have tq : (fun i => ∃ p ∈ ps ++ [q], p.1.1 = i) q.1.1 := ⟨q, hm, rfl⟩
  have rd : ∀ {N : zM} {a b i x : Int}, b ≠ a → zset N (o + a) i x (o + b) = N (o + b) := fun hab => zset_off (by omega)
  refine bX1_append_0 hG ho ⟨fun z => absurd z (by omega), fun _ => ⟨fun z => absurd z (by omega), fun _ => ⟨fun z => absurd z (by omega), fun _ => ⟨fun _ => ⟨by omega, fun z => ⟨by omega, by omega, by omega, by omega, by omega, by omega, by omega, ?_⟩, fun z => ⟨fun z2 => ?_, fun z2 => ⟨by omega, by omega, by omega, by omega, by omega, by omega, by omega, ?_⟩⟩⟩, fun z => absurd z (by omega)⟩⟩⟩⟩
  · have c : ps = [] := by
      by_cases c : ps = []
      · exact c
      · obtain ⟨p, p1, p2⟩ := zqL_m ps (-1) c
        have := h6.1 p p1
        omega
    refine fin _ (fun a i => ?_) ?_ (fun i => ?_) ?_ ?_ ?_ ?_ (fun _ => ?_) (fun z => absurd c z) ?_ (fun i hi => ?_) (fun i hi _ => ?_)
    · simp only [zset_ap]
      (repeat' split) <;> first | exact Or.inl rfl | (refine Or.inr ?_; (try subst_vars); first | exact Or.inl ⟨by omega, rfl⟩ | exact Or.inr (Or.inl ⟨by omega, tq⟩))
    · rw [zset_off (by omega), zset_off (by omega), zset_off (by omega), zset_off (by omega), zset_off (by omega)]
    · rw [rd (by decide), rd (by decide), rd (by decide), rd (by decide), rd (by decide)]
    · rw [rd (by decide), rd (by decide), rd (by decide), rd (by decide), rd (by decide)]
    · rw [rd (by decide), rd (by decide), rd (by decide), rd (by decide), rd (by decide)]
    · exact zset_same
    · rw [rd (by decide), rd (by decide), rd (by decide)]; exact zset_same
    · rw [rd (by decide), rd (by decide), rd (by decide), rd (by decide)]; exact zset_same
    · rw [rd (by decide)]; exact zset_same
    · rw [rd (by decide), zset_ne (fun z => hi z.2), rd (by decide), rd (by decide), rd (by decide)]
    · rw [rd (by decide), rd (by decide), zset_ne (fun z => hi z.2), rd (by decide), rd (by decide)]
  · exfalso
    by_cases c : ps = []
    · rw [h5, c] at z
      exact absurd z (by show ¬ (0 : Int) ≤ -1; decide)
    · obtain ⟨p, p1, p2⟩ := zqL_m ps (-1) c
      have := h6.1 p p1
      omega
  · have c : ps ≠ [] := fun c => by
      rw [h5, c] at z
      exact absurd z (by show ¬ (0 : Int) ≤ -1; decide)
    obtain ⟨r, r1, r2⟩ := zqL_m ps (-1) c
    have tr : (fun i => ∃ p ∈ ps ++ [q], p.1.1 = i) (M (o + 6) w) := ⟨r, List.mem_append_left _ r1, by rw [h5]; exact r2⟩
    have rq : r.1.1 ≠ q.1.1 := by
      have pj := (List.pairwise_append.mp hD.2).2.2 r r1 q (List.mem_cons_self ..)
      have w1 := hD.1 r (List.mem_append_left _ r1)
      unfold zqJ at pj
      omega
    refine fin _ (fun a i => ?_) ?_ (fun i => ?_) ?_ ?_ ?_ ?_ (fun z => absurd z c) (fun _ => ⟨?_, ?_⟩) ?_ (fun i hi => ?_) (fun i hi hi2 => ?_)
    · simp only [zset_ap]
      (repeat' split) <;> first | exact Or.inl rfl | (refine Or.inr ?_; (try subst_vars); first | exact Or.inl ⟨by omega, rfl⟩ | exact Or.inr (Or.inl ⟨by omega, tq⟩) | exact Or.inr (Or.inl ⟨by omega, tr⟩))
    · rw [zset_off (by omega), zset_off (by omega), zset_off (by omega), zset_off (by omega), zset_off (by omega)]
    · rw [rd (by decide), rd (by decide), rd (by decide), rd (by decide), rd (by decide)]
    · rw [rd (by decide), rd (by decide), rd (by decide), rd (by decide), rd (by decide)]
    · rw [rd (by decide), rd (by decide), rd (by decide), rd (by decide), rd (by decide)]
    · exact zset_same
    · rw [rd (by decide), rd (by decide), rd (by decide)]; exact zset_same
    · rw [rd (by decide), rd (by decide), rd (by decide), rd (by decide), rd (by decide)]
    · rw [rd (by decide), rd (by decide), zset_ne (fun z => rq (by rw [r2]; exact z.2)), rd (by decide), ← h5]; exact zset_same
    · rw [rd (by decide)]; exact zset_same
    · rw [rd (by decide), zset_ne (fun z => hi z.2), rd (by decide), rd (by decide), rd (by decide)]
    · rw [rd (by decide), rd (by decide), zset_ne (fun z => hi z.2), rd (by decide), zset_ne (fun z => hi2 (by rw [← h5]; exact z.2))]
theorem s_dropParts (hG : zP G) {o w k v top : Int} {n : Nat} {ps : List zPe} (ho : zND o) (hW : zqW M o w k v top n ps) (h : ∀ M', zqK o w (fun _ => False) M M' → M' o 8 = M o 8 → (∀ i, M' (o + 8) i = M (o + 8) i) → zqW M' o w k v top n [] → Q (9, 0) M') : Y G d mX1_dropParts 0 [(2, o), (0, w)] [] M Q := by
  obtain ⟨⟨h1, h2⟩, ⟨h3, h3'⟩, h4, h5, h6, h7, h8⟩ := hW
  have rd : ∀ {N : zM} {a b i x : Int}, b ≠ a → zset N (o + a) i x (o + b) = N (o + b) := fun hab => zset_off (by omega)
  refine bX1_dropParts_0 hG ho ⟨fun z => absurd z (by omega), fun _ => ⟨fun z => absurd z (by omega), fun _ => ⟨by omega, by omega, by omega, h _ (fun a i => ?_) ?_ (fun i => ?_) ⟨⟨?_, ?_⟩, ⟨?_, by decide⟩, trivial, ?_, ⟨fun p hp => (List.not_mem_nil hp).elim, List.Pairwise.nil⟩, fun p hp => (List.not_mem_nil hp).elim, ?_⟩⟩⟩⟩
  · simp only [zset_ap]
    (repeat' split) <;> first | exact Or.inl rfl | (refine Or.inr ?_; (try subst_vars); exact Or.inl ⟨by omega, rfl⟩)
  · rw [zset_off (by omega), zset_off (by omega), zset_off (by omega)]
  · rw [rd (by decide), rd (by decide), rd (by decide)]
  · rw [rd (by decide), rd (by decide), rd (by decide)]; exact h1
  · rw [rd (by decide), rd (by decide), rd (by decide)]; exact h2
  · rw [rd (by decide), rd (by decide)]; exact zset_same
  · exact zset_same
  · rw [zset_off (by omega), zset_off (by omega), zset_off (by omega)]; exact h8
theorem s_become (hG : zP G) {o w k v top k' v' : Int} {n : Nat} {ps : List zPe} (ho : zND o) (hW : zqW M o w k v top n ps) (h : ∀ M', zqK o w (fun _ => False) M M' → M' o 8 = M o 8 → zqW M' o w k' v' top n [] → Q (9, 0) M') : Y G d mX1_become 0 [(2, o), (0, w), (0, k'), (0, v')] [] M Q := by
  obtain ⟨⟨h1, h2⟩, ⟨h3, h3'⟩, h4, h5, h6, h7, h8⟩ := hW
  have rd : ∀ {N : zM} {a b i x : Int}, b ≠ a → zset N (o + a) i x (o + b) = N (o + b) := fun hab => zset_off (by omega)
  refine bX1_become_0 hG ho ⟨fun z => absurd z (by omega), fun _ => ⟨fun z => absurd z (by omega), fun _ => ⟨by omega, by omega, by omega, by omega, by omega, h _ (fun a i => ?_) ?_ ⟨⟨?_, ?_⟩, ⟨?_, by decide⟩, trivial, ?_, ⟨fun p hp => (List.not_mem_nil hp).elim, List.Pairwise.nil⟩, fun p hp => (List.not_mem_nil hp).elim, ?_⟩⟩⟩⟩
  · simp only [zset_ap]
    (repeat' split) <;> first | exact Or.inl rfl | (refine Or.inr ?_; (try subst_vars); exact Or.inl ⟨by omega, rfl⟩)
  · rw [zset_off (by omega), zset_off (by omega), zset_off (by omega), zset_off (by omega), zset_off (by omega)]
  · rw [rd (by decide), rd (by decide), rd (by decide), rd (by decide)]; exact zset_same
  · rw [rd (by decide), rd (by decide), rd (by decide)]; exact zset_same
  · rw [rd (by decide), rd (by decide)]; exact zset_same
  · exact zset_same
  · rw [zset_off (by omega), zset_off (by omega), zset_off (by omega), zset_off (by omega), zset_off (by omega)]; exact h8
end YD
