section Y4
variable {G : zG} {d : Nat} {M : zM} {Q : zV → zM → Prop}
/-! a list lies in a row -/
def zat (R : Int → Int) : Int → List Int → Prop
  | _, [] => True
  | k, a :: l => R k = a ∧ zat R (k + 1) l
theorem zat_app {R : Int → Int} : ∀ (l m : List Int) (k : Int), zat R k (l ++ m) ↔ zat R k l ∧ zat R (k + l.length) m
  | [], m, k => by
    show zat R k m ↔ True ∧ zat R (k + 0) m
    rw [Int.add_zero]; exact ⟨fun h => ⟨trivial, h⟩, fun h => h.2⟩
  | a :: l, m, k => by
    show (R k = a ∧ zat R (k + 1) (l ++ m)) ↔ (R k = a ∧ zat R (k + 1) l) ∧ zat R (k + ((a :: l).length : Int)) m
    rw [zat_app l m, List.length_cons, show k + ((l.length + 1 : Nat) : Int) = k + 1 + l.length by omega]
    exact ⟨fun h => ⟨⟨h.1, h.2.1⟩, h.2.2⟩, fun h => ⟨h.1.1, h.1.2, h.2⟩⟩
theorem zat_c {R R' : Int → Int} : ∀ (l : List Int) (k : Int), (∀ i, k ≤ i → i < k + l.length → R' i = R i) → zat R k l → zat R' k l
  | [], _, _, _ => trivial
  | a :: l, k, e, h => by
    rw [List.length_cons] at e
    exact ⟨by rw [e k (by omega) (by omega)]; exact h.1, zat_c l (k + 1) (fun i i0 i1 => e i (by omega) (by omega)) h.2⟩
theorem zat_hd {R : Int → Int} {k : Int} {l : List Int} {a : Int} (h : zat R k l) (hl : 1 ≤ l.length) : R k = a ↔ l.head? = some a := by
  cases l with
  | nil => exact absurd hl (by decide)
  | cons b l =>
    rw [h.1]
    exact ⟨fun e => by rw [e]; rfl, fun e => by injection e⟩
theorem zat_eq {R : Int → Int} : ∀ (l m : List Int) (k : Int), l.length = m.length → zat R k l → zat R k m → l = m
  | [], [], _, _, _, _ => rfl
  | [], _ :: _, _, h, _, _ => absurd h (by rw [List.length_cons]; exact (Nat.succ_ne_zero _).symm)
  | _ :: _, [], _, h, _, _ => absurd h (by rw [List.length_cons]; exact Nat.succ_ne_zero _)
  | a :: l, b :: m, k, h, h1, h2 => by
    rw [← h1.1, ← h2.1, zat_eq l m (k + 1) (by rw [List.length_cons, List.length_cons] at h; omega) h1.2 h2.2]
/-! behind a part -/
def zbhP (G : zG) (d : Nat) (M : zM) (Q : zV → zM → Prop) (e : List Int) : Prop := 1 ≤ e.length ∧ ∀ x1 k o : Int, 0 ≤ k → k + e.length ≤ 600 → 0 ≤ o → o + e.length ≤ 100000 → zat (M 251) k e → Y G d mX12_behind 4 [(2, 234), (0, x1), (0, k + e.length), (0, o), (9, 0)] [] M Q → Y G d mX12_behind 4 [(2, 234), (0, x1), (0, k), (0, o + 1), (9, 0)] [] M Q
theorem zfm_ge {g : znT → List Int} : ∀ ps : List znT, (∀ p ∈ ps, 1 ≤ (g p).length) → ps.length ≤ (ps.flatMap g).length
  | [], _ => Nat.le_refl _
  | p :: ps, h => by
    have := zfm_ge ps (fun q hq => h q (List.mem_cons_of_mem _ hq))
    have := h p (List.mem_cons_self ..)
    rw [List.flatMap_cons, List.length_append, List.length_cons]; omega
theorem zbhL {g : znT → List Int} {x1 : Int} : ∀ (ps : List znT), (∀ p ∈ ps, zbhP G d M Q (g p)) → ∀ k o : Int, 0 ≤ k → k + (ps.flatMap g).length ≤ 600 → 0 ≤ o → o + (ps.flatMap g).length ≤ 100000 → zat (M 251) k (ps.flatMap g) → Y G d mX12_behind 4 [(2, 234), (0, x1), (0, k + (ps.flatMap g).length), (0, o), (9, 0)] [] M Q → Y G d mX12_behind 4 [(2, 234), (0, x1), (0, k), (0, o + ps.length), (9, 0)] [] M Q
  | [], _, k, o, _, _, _, _, _, h => by
    have e : ([] : List znT).flatMap g = [] := rfl
    rw [e] at h
    have h' : Y G d mX12_behind 4 [(2, 234), (0, x1), (0, k + 0), (0, o), (9, 0)] [] M Q := h
    rw [Int.add_zero] at h'
    show Y G d mX12_behind 4 [(2, 234), (0, x1), (0, k), (0, o + 0), (9, 0)] [] M Q
    rw [Int.add_zero]; exact h'
  | p :: ps, hp, k, o, k0, k1, o0, o1, ha, h => by
    rw [List.flatMap_cons] at k1 o1 ha h
    rw [List.length_append] at k1 o1 h
    rw [zat_app] at ha
    have w := hp p (List.mem_cons_self ..)
    have ge := zfm_ge (g := g) ps (fun q hq => (hp q (List.mem_cons_of_mem _ hq)).1)
    rw [List.length_cons, show o + ((ps.length + 1 : Nat) : Int) = o + ps.length + 1 by omega]
    refine w.2 x1 k (o + ps.length) k0 (by omega) (by omega) (by omega) ha.1 ?_
    refine zbhL ps (fun q hq => hp q (List.mem_cons_of_mem _ hq)) _ o (by omega) (by omega) o0 (by omega) ha.2 ?_
    rw [show k + ((g p).length : Int) + ((ps.flatMap g).length : Int) = k + (((g p).length + (ps.flatMap g).length : Nat) : Int) by omega]
    exact h
theorem zbh_w (hG : zP G) : ∀ (n : Nat) (e : List Int) (m : Int), znk n e m → zbhP G d M Q e
  | 0, _, _, h => h.elim
  | n + 1, e, m, h => by
    obtain ⟨-, k, v, ps, ⟨⟨g1, -⟩, g2, g3, g4, g5, g6⟩, q, -, w⟩ := h
    have hp : ∀ p ∈ ps, zbhP G d M Q p.2 := fun p hp => by
      obtain ⟨a, h⟩ := znl_mem ps m w p hp
      exact zbh_w hG n _ _ h
    subst q
    unfold znh
    by_cases c0 : k < 2
    · rw [if_pos c0]
      refine ⟨by show 1 ≤ 2; decide, fun x1 kk o k0 k1 o0 o1 ha h => ?_⟩
      have h1 : M 251 kk = k := ha.1
      have k1' : kk + 2 ≤ 600 := k1
      refine bX12_behind_4 hG ?_
      rw [h1]
      refine ⟨fun z => absurd z (by omega), fun _ => ⟨by omega, by omega, fun z => absurd z (by omega), fun _ => ⟨fun _ => ⟨fun z => absurd z (by omega), fun _ => ⟨fun z => absurd z (by omega), fun _ => ⟨fun _ => ⟨fun _ => ?_, fun z => absurd z (by omega)⟩, fun z => absurd z (by omega)⟩⟩⟩, fun z => absurd z (by omega)⟩⟩⟩
      refine bX12_behind_89 hG ⟨fun _ => bX12_behind_99 hG ⟨fun _ => ⟨by omega, ?_⟩, fun z => absurd z (by omega)⟩, fun z => absurd z (by omega)⟩
      rw [show o + 1 + -1 = o by omega]; exact h
    · rw [if_neg c0]
      have sumC : ∀ (s : Int) (g : znT → List Int), (s = 2 ∨ s = 3) → (∀ p ∈ ps, zbhP G d M Q (g p)) → zbhP G d M Q (s :: (ps.length : Int) :: ps.flatMap g) := fun s g hs hg => by
        refine ⟨by rw [List.length_cons]; omega, fun x1 kk o k0 k1 o0 o1 ha h => ?_⟩
        rw [List.length_cons, List.length_cons] at k1 o1 h
        have h1 : M 251 kk = s := ha.1
        have h2 : M 251 (kk + 1) = ps.length := ha.2.1
        have ge := zfm_ge (g := g) ps (fun q hq => (hg q hq).1)
        have st : Y G d mX12_behind 31 [(2, 234), (0, x1), (0, kk), (0, o + 1 + -1), (0, M 251 kk)] [] M Q := by
          refine bX12_behind_31 hG ?_
          rw [h1, h2]
          refine ⟨by omega, by omega, by omega, bX12_behind_99 hG ⟨fun _ => ⟨by omega, ?_⟩, fun z => absurd z (by omega)⟩⟩
          rw [show o + 1 + -1 + (ps.length : Int) = o + ps.length by omega]
          refine zbhL ps hg (kk + 2) o (by omega) (by omega) o0 (by omega) (by have := ha.2.2; rw [show kk + 1 + 1 = kk + 2 by omega] at this; exact this) ?_
          rw [show kk + 2 + ((ps.flatMap g).length : Int) = kk + (((ps.flatMap g).length + 1 + 1 : Nat) : Int) by omega]
          exact h
        refine bX12_behind_4 hG ⟨fun z => absurd z (by omega), fun _ => ⟨by omega, by omega, fun _ => st, fun z => ⟨fun z2 => absurd z2 (by omega), fun _ => st⟩⟩⟩
      by_cases c2 : k = 2
      · rw [if_pos c2]
        refine sumC 2 _ (Or.inl rfl) (fun p hp' => ?_)
        have s := (g6 p hp').1
        obtain ⟨w1, w2⟩ := hp p hp'
        refine ⟨by rw [List.length_cons]; omega, fun x1 kk o k0 k1 o0 o1 ha h => ?_⟩
        rw [List.length_cons] at k1 o1 h
        have h1 : M 251 kk = 100 + p.1 := ha.1
        have st : Y G d mX12_behind 64 [(2, 234), (0, x1), (0, kk), (0, o + 1 + -1), (0, M 251 kk)] [] M Q := by
          refine bX12_behind_64 hG ?_
          rw [h1]
          refine ⟨by omega, bX12_behind_99 hG ⟨fun z => absurd z (by omega), fun _ => ⟨fun _ => ⟨by omega, ?_⟩, fun z => absurd z (by omega)⟩⟩⟩
          rw [show o + 1 + -1 + 1 = o + 1 by omega]
          refine w2 x1 (kk + 1) o (by omega) (by omega) o0 (by omega) ha.2 ?_
          rw [show kk + 1 + (p.2.length : Int) = kk + ((p.2.length + 1 : Nat) : Int) by omega]
          exact h
        exact bX12_behind_4 hG ⟨fun z => absurd z (by omega), fun _ => ⟨by omega, by omega, fun z => absurd z (by omega), fun _ => ⟨fun _ => ⟨fun z => absurd z (by omega), fun _ => ⟨fun z => absurd z (by omega), fun _ => ⟨fun z => absurd z (by omega), fun _ => st⟩⟩⟩, fun z => absurd z (by omega)⟩⟩⟩
      · rw [if_neg c2]
        by_cases c3 : k = 3
        · rw [if_pos c3]
          exact sumC 3 _ (Or.inr rfl) hp
        · rw [if_neg c3]
          have ge := zfm_ge (g := fun p : znT => p.2) ps (fun q hq => (hp q hq).1)
          by_cases c10 : k = 10
          · rw [if_pos c10]
            have l4 := g5 c10
            refine ⟨by rw [List.length_cons]; omega, fun x1 kk o k0 k1 o0 o1 ha h => ?_⟩
            rw [List.length_cons, List.length_cons] at k1 o1 h
            have h1 : M 251 kk = 10 := ha.1
            have st : Y G d mX12_behind 89 [(2, 234), (0, x1), (0, kk), (0, o + 1 + -1), (0, M 251 kk)] [] M Q := by
              refine bX12_behind_89 hG ?_
              rw [h1]
              refine ⟨fun z => absurd rfl z, fun _ => ⟨by omega, bX12_behind_99 hG ⟨fun z => absurd z (by omega), fun _ => ⟨fun z => absurd rfl z, fun _ => ⟨by omega, ?_⟩⟩⟩⟩⟩
              rw [show o + 1 + -1 + 4 = o + (ps.length : Int) by omega]
              refine zbhL (g := fun p => p.2) ps hp (kk + 2) o (by omega) (by omega) o0 (by omega) (by have := ha.2.2; rw [show kk + 1 + 1 = kk + 2 by omega] at this; exact this) ?_
              rw [show kk + 2 + ((ps.flatMap (fun p => p.2)).length : Int) = kk + (((ps.flatMap (fun p => p.2)).length + 1 + 1 : Nat) : Int) by omega]
              exact h
            exact bX12_behind_4 hG ⟨fun z => absurd z (by omega), fun _ => ⟨by omega, by omega, fun z => absurd z (by omega), fun _ => ⟨fun _ => ⟨fun z => absurd z (by omega), fun _ => ⟨fun z => absurd z (by omega), fun _ => ⟨fun _ => ⟨fun z => absurd z (by omega), fun _ => ⟨fun _ => st, fun z => absurd z (by omega)⟩⟩, fun z => absurd z (by omega)⟩⟩⟩, fun z => absurd z (by omega)⟩⟩⟩
          · rw [if_neg c10]
            refine ⟨by rw [List.length_cons]; omega, fun x1 kk o k0 k1 o0 o1 ha h => ?_⟩
            rw [List.length_cons] at k1 o1 h
            have h1 : M 251 kk = k := ha.1
            have fin : Y G d mX12_behind 99 [(2, 234), (0, x1), (0, kk), (0, o + ps.length), (0, M 251 kk)] [] M Q := by
              refine bX12_behind_99 hG ?_
              rw [h1]
              refine ⟨fun z => absurd z (by omega), fun _ => ⟨fun _ => ⟨by omega, ?_⟩, fun z => absurd z c10⟩⟩
              refine zbhL (g := fun p => p.2) ps hp (kk + 1) o (by omega) (by omega) o0 (by omega) ha.2 ?_
              rw [show kk + 1 + ((ps.flatMap (fun p => p.2)).length : Int) = kk + (((ps.flatMap (fun p => p.2)).length + 1 : Nat) : Int) by omega]
              exact h
            by_cases c5 : k = 4 ∨ k = 5
            · have l := g3 c5
              have st : Y G d mX12_behind 64 [(2, 234), (0, x1), (0, kk), (0, o + 1 + -1), (0, M 251 kk)] [] M Q := by
                refine bX12_behind_64 hG ⟨by omega, ?_⟩
                rw [show o + 1 + -1 + 1 = o + (ps.length : Int) by omega]; exact fin
              exact bX12_behind_4 hG ⟨fun z => absurd z (by omega), fun _ => ⟨by omega, by omega, fun z => absurd z (by omega), fun _ => ⟨fun _ => ⟨fun _ => st, fun _ => ⟨fun _ => st, fun z => absurd z (by omega)⟩⟩, fun z => absurd z (by omega)⟩⟩⟩
            · have l := g4 (by omega)
              refine bX12_behind_4 hG ⟨fun z => absurd z (by omega), fun _ => ⟨by omega, by omega, fun z => absurd z (by omega), fun _ => ⟨fun _ => ⟨fun z => absurd z (by omega), fun _ => ⟨fun z => absurd z (by omega), fun _ => ⟨fun _ => ⟨fun z => absurd z (by omega), fun _ => ⟨fun z => absurd z (by omega), fun _ => ⟨by omega, ?_⟩⟩⟩, fun z => absurd z (by omega)⟩⟩⟩, fun z => absurd z (by omega)⟩⟩⟩
              rw [show o + 1 + -1 + 2 = o + (ps.length : Int) by omega]; exact fin
theorem znk_ge {n : Nat} {e : List Int} {m : Int} (h : znk n e m) : 1 ≤ e.length := by
  cases n with
  | zero => exact h.elim
  | succ n =>
    obtain ⟨-, k, v, ps, -, q, -⟩ := h
    rw [q]
    unfold znh
    split
    · exact (by decide : 1 ≤ 2)
    · split
      · rw [List.length_cons]; omega
      · split
        · rw [List.length_cons]; omega
        · split <;> (rw [List.length_cons]; omega)
theorem s_mbehind (hG : zP G) {n : Nat} {e : List Int} {m k : Int} (h : znk n e m) (k0 : 0 ≤ k) (k1 : k + e.length ≤ 600) (ha : zat (M 251) k e) (hq : Q (0, k + e.length) M) : Y G d mX12_behind 0 [(2, 234), (0, k), (9, 0), (9, 0), (9, 0)] [] M Q := by
  refine bX12_behind_0 hG ((zbh_w hG n e m h).2 k k 0 k0 k1 (by decide) (by omega) ha (bX12_behind_4 hG ⟨fun _ => hq, fun z => absurd z (by decide)⟩))
/-! which comes first -/
theorem s_cmp (hG : zP G) {x y lx ly : Int} (hx : 0 ≤ x ∧ x + lx ≤ 600) (hy : 0 ≤ y ∧ y + ly ≤ 600) : ∀ (l l' : List Int) (i : Int), 0 ≤ i → zat (M 251) (x + i) l → zat (M 251) (y + i) l' → i + l.length = lx → i + l'.length = ly → (∀ c, (c < 0 ↔ znc l l' < 0) → (c = 0 ↔ znc l l' = 0) → Q (0, c) M) → Y G d mX12_compared 3 [(2, 234), (0, x), (0, lx), (0, y), (0, ly), (0, i)] [] M Q
  | [], [], i, i0, _, _, e1, e2, h => by
    have e1' : i + 0 = lx := e1
    have e2' : i + 0 = ly := e2
    exact bX12_compared_3 hG ⟨fun _ => ⟨by omega, h _ ⟨fun z => absurd z (by omega), fun z => absurd z (by show ¬ (0 : Int) < 0; decide)⟩ ⟨fun _ => rfl, fun _ => by omega⟩⟩, fun z => absurd z (by omega)⟩
  | [], b :: l', i, i0, _, _, e1, e2, h => by
    have e1' : i + 0 = lx := e1
    rw [List.length_cons] at e2
    exact bX12_compared_3 hG ⟨fun _ => ⟨by omega, h _ ⟨fun _ => by show (-1 : Int) < 0; decide, fun _ => by omega⟩ ⟨fun z => absurd z (by omega), fun z => absurd z (by show ¬ (-1 : Int) = 0; decide)⟩⟩, fun z => absurd z (by omega)⟩
  | a :: l, [], i, i0, _, _, e1, e2, h => by
    have e2' : i + 0 = ly := e2
    rw [List.length_cons] at e1
    exact bX12_compared_3 hG ⟨fun z => absurd z (by omega), fun _ => ⟨fun _ => ⟨by omega, h _ ⟨fun z => absurd z (by omega), fun z => absurd z (by show ¬ (1 : Int) < 0; decide)⟩ ⟨fun z => absurd z (by omega), fun z => absurd z (by show ¬ (1 : Int) = 0; decide)⟩⟩, fun z => absurd z (by omega)⟩⟩
  | a :: l, b :: l', i, i0, ha, hb, e1, e2, h => by
    rw [List.length_cons] at e1 e2
    have q : znc (a :: l) (b :: l') = if a < b then (-1 : Int) else if b < a then 1 else znc l l' := rfl
    rw [q] at h
    refine bX12_compared_3 hG ?_
    rw [ha.1, hb.1]
    refine ⟨fun z => absurd z (by omega), fun _ => ⟨fun z => absurd z (by omega), fun _ => ⟨by omega, by omega, by omega, by omega, fun c => ⟨by omega, ?_⟩, fun c => ⟨by omega, by omega, by omega, by omega, fun c2 => ?_, fun c2 => ?_⟩⟩⟩⟩
    · rw [if_neg (by omega), if_neg (by omega)] at h
      exact s_cmp hG hx hy l l' (i + 1) (by omega) (by have := ha.2; rw [show x + i + 1 = x + (i + 1) by omega] at this; exact this) (by have := hb.2; rw [show y + i + 1 = y + (i + 1) by omega] at this; exact this) (by omega) (by omega) h
    · rw [if_neg (by omega), if_pos (by omega)] at h
      exact h 1 ⟨fun z => z, fun z => z⟩ ⟨fun z => z, fun z => z⟩
    · rw [if_pos c2] at h
      exact h (-1) ⟨fun z => z, fun z => z⟩ ⟨fun z => z, fun z => z⟩
theorem s_compared (hG : zP G) {x y : Int} {l l' : List Int} (hx : 0 ≤ x ∧ x + l.length ≤ 600) (hy : 0 ≤ y ∧ y + l'.length ≤ 600) (ha : zat (M 251) x l) (hb : zat (M 251) y l') (h : ∀ c, (c < 0 ↔ znc l l' < 0) → (c = 0 ↔ znc l l' = 0) → Q (0, c) M) : Y G d mX12_compared 0 [(2, 234), (0, x), (0, (l.length : Int)), (0, y), (0, (l'.length : Int)), (9, 0)] [] M Q :=
  bX12_compared_0 hG (s_cmp hG hx hy l l' 0 (by decide) (by rw [Int.add_zero]; exact ha) (by rw [Int.add_zero]; exact hb) (Int.zero_add _) (Int.zero_add _) h)
end Y4
