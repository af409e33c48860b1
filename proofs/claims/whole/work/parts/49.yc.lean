section YC
variable {G : zG} {d : Nat} {M : zM} {Q : zV → zM → Prop}
/-! what the class says: nodes -/
abbrev zPe := (Int × Int) × znT
def zqN (M : zM) (o : Int) : Int → List zPe → Prop
  | _, [] => True
  | y, p :: ps => y = p.1.1 ∧ zqN M o (M (o + 7) p.1.1) ps
def zqJ (p q : zPe) : Prop := p.1.2 ≤ q.1.1 ∨ q.1.2 ≤ p.1.1
def zqD (lo hi : Int) (ps : List zPe) : Prop := (∀ p ∈ ps, lo < p.1.1 ∧ p.1.1 < p.1.2 ∧ p.1.2 ≤ hi) ∧ ps.Pairwise zqJ
def zq2 (ps : List zPe) : List znT := ps.map (fun p => p.2)
def zqE (M : zM) (o : Int) : Nat → Int → Int → List Int → Prop
  | 0, _, _, _ => False
  | n + 1, x, h, e => (0 ≤ x ∧ x < h) ∧ ∃ ps : List zPe, zng (M (o + 1) x) (zq2 ps) ∧ e = znh (M (o + 1) x) (M (o + 2) x) (zq2 ps) ∧ (2 ≤ M (o + 1) x ∧ M (o + 1) x ≤ 9 → M (o + 2) x = 0) ∧ (M (o + 4) x = ps.length ∧ ps.length ≤ 16) ∧ zqN M o (M (o + 5) x) ps ∧ zqD x h ps ∧ ∀ p ∈ ps, zqE M o n p.1.1 p.1.2 p.2.2 ∧ M (o + 3) p.1.1 = 1 - 2 * p.2.1
theorem zqN_c {o : Int} {M' : zM} : ∀ (ps : List zPe) (y : Int), (∀ p ∈ ps, M' (o + 7) p.1.1 = M (o + 7) p.1.1) → zqN M o y ps → zqN M' o y ps
  | [], _, _, _ => trivial
  | p :: ps, y, e, h => ⟨h.1, by
      rw [e p (List.mem_cons_self ..)]
      exact zqN_c ps _ (fun q hq => e q (List.mem_cons_of_mem _ hq)) h.2⟩
theorem zqE_c {o : Int} {M' : zM} : ∀ (n : Nat) (x h : Int) (e : List Int), (∀ i, x ≤ i → i < h → M' (o + 1) i = M (o + 1) i ∧ M' (o + 2) i = M (o + 2) i ∧ M' (o + 4) i = M (o + 4) i ∧ M' (o + 5) i = M (o + 5) i) → (∀ i, x < i → i < h → M' (o + 3) i = M (o + 3) i ∧ M' (o + 7) i = M (o + 7) i) → zqE M o n x h e → zqE M' o n x h e
  | 0, _, _, _, _, _, q => q
  | n + 1, x, h, e, a, b, q => by
    obtain ⟨q1, ps, g, ee, v0, cn, ch, ⟨d1, d2⟩, hp⟩ := q
    obtain ⟨a1, a2, a4, a5⟩ := a x (by omega) q1.2
    refine ⟨q1, ps, by rw [a1]; exact g, by rw [a1, a2]; exact ee, by rw [a1, a2]; exact v0, by rw [a4]; exact cn, ?_, ⟨d1, d2⟩, fun p hp' => ?_⟩
    · rw [a5]
      exact zqN_c ps _ (fun p hp' => (b p.1.1 (d1 p hp').1 (by have := d1 p hp'; omega)).2) ch
    · have w := d1 p hp'
      obtain ⟨r1, r2⟩ := hp p hp'
      refine ⟨zqE_c n _ _ _ (fun i i0 i1 => a i (by omega) (by omega)) (fun i i0 i1 => b i (by omega) (by omega)) r1, ?_⟩
      rw [(b p.1.1 w.1 (by omega)).1]; exact r2
theorem zqE_m {o : Int} : ∀ (n : Nat) (x h h' : Int) (e : List Int), h ≤ h' → zqE M o n x h e → zqE M o (n + 1) x h' e
  | 0, _, _, _, _, _, q => q.elim
  | n + 1, x, h, h', e, hh, q => by
    obtain ⟨q1, ps, g, ee, v0, cn, ch, ⟨d1, d2⟩, hp⟩ := q
    refine ⟨by omega, ps, g, ee, v0, cn, ch, ⟨fun p hp' => by have := d1 p hp'; omega, d2⟩, fun p hp' => ⟨zqE_m n _ _ _ _ (Int.le_refl _) (hp p hp').1, (hp p hp').2⟩⟩
theorem zqE_h {o : Int} {n : Nat} {x h h' : Int} {e : List Int} (hh : h ≤ h') (q : zqE M o n x h e) : zqE M o n x h' e := by
  cases n with
  | zero => exact q.elim
  | succ n =>
    obtain ⟨q1, ps, g, ee, v0, cn, ch, ⟨d1, d2⟩, hp⟩ := q
    exact ⟨by omega, ps, g, ee, v0, cn, ch, ⟨fun p hp' => by have := d1 p hp'; omega, d2⟩, hp⟩
theorem zqE_le {o : Int} {n n' : Nat} (hn : n ≤ n') {x h h' : Int} {e : List Int} (hh : h ≤ h') (q : zqE M o n x h e) : zqE M o n' x h' e := by
  induction hn with
  | refl => exact zqE_h hh q
  | step _ ih => exact zqE_m _ _ _ _ _ (Int.le_refl _) ih
/-! the order of what is said -/
def zoc (c : Int) (e e' : List Int) : Prop := (c = 0 → e = e') ∧ (c < 0 → ∀ r r', znc (e ++ r) (e' ++ r') = -1) ∧ (0 < c → ∀ r r', znc (e ++ r) (e' ++ r') = 1)
theorem znc_cons {a b : Int} {l m : List Int} : znc (a :: l) (b :: m) = if a < b then (-1 : Int) else if b < a then 1 else znc l m := rfl
theorem znc_pre (a : Int) (l m : List Int) : znc (a :: l) (a :: m) = znc l m := by
  rw [znc_cons, if_neg (by omega), if_neg (by omega)]
theorem zoc_hd {c a b : Int} {l m : List Int} (h : a ≠ b) (hc : c = zlcmp a b) : zoc c (a :: l) (b :: m) := by
  subst hc
  refine ⟨fun z => absurd (zlcmp_eq.mp z) h, fun z r r' => ?_, fun z r r' => ?_⟩
  · rw [zlcmp_lt] at z
    show znc (a :: (l ++ r)) (b :: (m ++ r')) = -1
    rw [znc_cons, if_pos z]
  · rw [zlcmp_gt] at z
    show znc (a :: (l ++ r)) (b :: (m ++ r')) = 1
    rw [znc_cons, if_neg (by omega), if_pos z]
theorem zoc_cons {c a : Int} {l m : List Int} (h : zoc c l m) : zoc c (a :: l) (a :: m) := by
  refine ⟨fun z => by rw [h.1 z], fun z r r' => ?_, fun z r r' => ?_⟩
  · show znc (a :: (l ++ r)) (a :: (m ++ r')) = -1
    rw [znc_pre]; exact h.2.1 z r r'
  · show znc (a :: (l ++ r)) (a :: (m ++ r')) = 1
    rw [znc_pre]; exact h.2.2 z r r'
theorem zoc_app {c : Int} {e e' l m : List Int} (he : e = e') (h : zoc c l m) : zoc c (e ++ l) (e' ++ m) := by
  subst he
  have q : ∀ (e l m : List Int), znc (e ++ l) (e ++ m) = znc l m := fun e => by
    induction e with
    | nil => exact fun l m => rfl
    | cons a e ih => exact fun l m => (znc_pre a _ _).trans (ih l m)
  refine ⟨fun z => by rw [h.1 z], fun z r r' => ?_, fun z r r' => ?_⟩
  · rw [List.append_assoc, List.append_assoc, q]; exact h.2.1 z r r'
  · rw [List.append_assoc, List.append_assoc, q]; exact h.2.2 z r r'
theorem zoc_ne {c : Int} {e e' l m : List Int} (hc : c ≠ 0) (h : zoc c e e') : zoc c (e ++ l) (e' ++ m) := by
  refine ⟨fun z => absurd z hc, fun z r r' => ?_, fun z r r' => ?_⟩
  · rw [List.append_assoc, List.append_assoc]; exact h.2.1 z _ _
  · rw [List.append_assoc, List.append_assoc]; exact h.2.2 z _ _
theorem zoc_nc {c : Int} {e e' : List Int} (h : zoc c e e') : (c < 0 ↔ znc e e' < 0) ∧ (c = 0 ↔ e = e') ∧ (0 < c ↔ 0 < znc e e') := by
  have s := znc_self e
  have b := h.2.1
  have g := h.2.2
  have p1 : c < 0 → znc e e' = -1 := fun z => by have := b z [] []; rw [List.append_nil, List.append_nil] at this; exact this
  have p2 : 0 < c → znc e e' = 1 := fun z => by have := g z [] []; rw [List.append_nil, List.append_nil] at this; exact this
  have p0 : c = 0 → znc e e' = 0 := fun z => by rw [← h.1 z]; exact s
  have p3 : e = e' → znc e e' = 0 := fun z => by rw [← z]; exact s
  refine ⟨⟨fun z => by have := p1 z; omega, fun z => ?_⟩, ⟨h.1, fun z => ?_⟩, ⟨fun z => by have := p2 z; omega, fun z => ?_⟩⟩
  · by_cases c1 : c < 0
    · exact c1
    · by_cases c2 : c = 0
      · have := p0 c2; omega
      · have := p2 (by omega); omega
  · have q := p3 z
    by_cases c1 : c < 0
    · have := p1 c1; omega
    · by_cases c2 : c = 0
      · exact c2
      · have := p2 (by omega); omega
  · by_cases c1 : c < 0
    · have := p1 c1; omega
    · by_cases c2 : c = 0
      · have := p0 c2; omega
      · omega
theorem znf_in {o f x dd : Int} (h : 0 ≤ x ∧ x < M o 8) : znf M o f x dd = M (o + f) x := by
  unfold znf
  rw [if_pos h]
theorem znh_tl {k v : Int} {ps : List znT} : ∃ l, znh k v ps = k :: l := by
  have := znh_hd (k := k) (v := v) (ps := ps)
  cases h : znh k v ps with
  | nil => rw [h] at this; cases this
  | cons a l =>
    rw [h] at this
    injection this with e
    exact ⟨l, by rw [e]⟩
/-- the row of a whole: how it begins, and its terms -/
def zhd0 (k v n : Int) : List Int := if k < 2 then [k, v] else if k = 2 ∨ k = 3 then [k, n] else if k = 10 then [k, v] else [k]
def zg0 (k : Int) (t : znT) : List Int := if k = 2 then (100 + t.1) :: t.2 else t.2
theorem znh_0 {k v : Int} {ps : List znT} (g : zng k ps) : znh k v ps = zhd0 k v ps.length ++ ps.flatMap (zg0 k) := by
  unfold znh zhd0
  by_cases c0 : k < 2
  · rw [if_pos c0, if_pos c0, g.2.1 c0]; rfl
  · rw [if_neg c0, if_neg c0]
    by_cases c2 : k = 2
    · subst c2; rw [if_pos rfl, if_pos (Or.inl rfl)]; rfl
    · rw [if_neg c2]
      have gg : zg0 k = (fun p : znT => p.2) := by funext t; unfold zg0; rw [if_neg c2]
      rw [gg]
      by_cases c3 : k = 3
      · subst c3; rw [if_pos rfl, if_pos (Or.inr rfl)]; rfl
      · rw [if_neg c3, if_neg (show ¬ (k = 2 ∨ k = 3) from fun z => by omega)]
        by_cases c10 : k = 10
        · subst c10; rw [if_pos rfl, if_pos rfl]; rfl
        · rw [if_neg c10, if_neg c10]; rfl
theorem s_ord (hG : zP G) {r0 r2 : Int} (h0 : zND r0) (h2 : zND r2) (s0 : M r0 8 ≤ 300) (s2 : M r2 8 ≤ 300) : ∀ (n : Nat) (x hx y hy t : Int) (e e' : List Int), 0 ≤ t → t + n ≤ 41 → hx ≤ M r0 8 → hy ≤ M r2 8 → zqE M r0 n x hx e → zqE M r2 n y hy e' → ∀ (d : Nat) (Q : zV → zM → Prop), (∀ c, zoc c e e' → -1 ≤ c ∧ c ≤ 1 → Q (0, c) M) → Y G (d + 2 * n) mX1_orderOf 0 [(2, r0), (0, x), (2, r2), (0, y), (0, t), (9, 0), (9, 0), (9, 0), (9, 0)] [] M Q
  | 0, _, _, _, _, _, _, _, _, _, _, _, q, _, _, _, _ => q.elim
  | n + 1, x, hx, y, hy, t, e, e', t0, t1, lx, ly, qx, qy, d, Q, h => by
    obtain ⟨x1, ps, gx, ex, vx, ⟨cx, cx16⟩, nx, ⟨dx1, dx2⟩, px⟩ := qx
    obtain ⟨y1, qs, gy, ey, vy, ⟨cy, cy16⟩, ny, ⟨dy1, dy2⟩, py⟩ := qy
    obtain ⟨tx, hxe⟩ := znh_tl (k := M (r0 + 1) x) (v := M (r0 + 2) x) (ps := zq2 ps)
    obtain ⟨ty, hye⟩ := znh_tl (k := M (r2 + 1) y) (v := M (r2 + 2) y) (ps := zq2 qs)
    have lp : (zq2 ps).length = ps.length := List.length_map _
    have lq : (zq2 qs).length = qs.length := List.length_map _
    have zr : ∀ a b : Int, -1 ≤ zlcmp a b ∧ zlcmp a b ≤ 1 := fun a b => by unfold zlcmp; split; omega; split <;> omega
    have fx := znh_0 (v := M (r0 + 2) x) gx
    have fy := znh_0 (v := M (r2 + 2) y) gy
    rw [lp] at fx
    rw [lq] at fy
    rw [show d + 2 * (n + 1) = d + 2 * n + 1 + 1 by omega]
    refine bX1_orderOf_0 hG h0 h2 ⟨fun z => absurd z (by omega), fun _ => ⟨fun z => absurd z (by omega), fun _ => ⟨fun z => absurd z (by omega), fun _ => ⟨fun z => absurd z (by omega), fun _ => ⟨fun _ => ⟨by omega, by omega, fun ek => ⟨by omega, by omega, fun ev => ⟨by omega, by omega, fun ec => ⟨by omega, by omega, ?_⟩, fun ec => ⟨by omega, by omega, h _ ?_ (zr _ _)⟩⟩, fun ev => ⟨by omega, by omega, h _ ?_ (zr _ _)⟩⟩, fun ek => ⟨by omega, by omega, h _ ?_ (zr _ _)⟩⟩, fun z => absurd z (by omega)⟩⟩⟩⟩⟩
    · -- the parts
      have len : ps.length = qs.length := by omega
      rw [← ek] at gy fy vy
      have hd : zhd0 (M (r0 + 1) x) (M (r0 + 2) x) ps.length = zhd0 (M (r0 + 1) x) (M (r2 + 2) y) qs.length := by rw [ev, len]
      have lo : ∀ (l l' done : List zPe) (c a b : Int), l.length = l'.length → ps = done ++ l → (∀ p ∈ l, p ∈ ps) → (∀ p ∈ l', p ∈ qs) → zqN M r0 a l → zqN M r2 b l' → -1 ≤ c ∧ c ≤ 1 → (c ≠ 0 → zoc c e e') → (c = 0 → ∀ c', zoc c' ((zq2 l).flatMap (zg0 (M (r0 + 1) x))) ((zq2 l').flatMap (zg0 (M (r0 + 1) x))) → zoc c' e e') → Y G (d + 2 * n + 1 + 1) mX1_orderOf 148 [(2, r0), (0, x), (2, r2), (0, y), (0, t), (0, c), (0, a), (0, b), (0, (done.length : Int))] [] M Q := fun l => by
        induction l with
        | nil =>
          intro l' done c a b hl hps _ _ _ _ cr c1 c0
          have l'0 : l' = [] := List.length_eq_zero_iff.mp hl.symm
          subst l'0
          have dl : done.length = ps.length := by rw [hps, List.append_nil]
          refine bX1_orderOf_148 hG h0 h2 ⟨by omega, fun _ => h c ?_ cr, fun z => absurd z (by omega)⟩
          by_cases z : c = 0
          · subst z
            exact c0 rfl 0 ⟨fun _ => rfl, fun z => absurd z (by omega), fun z => absurd z (by omega)⟩
          · exact c1 z
        | cons p l ih =>
          intro l' done c a b hl hps m1 m2 na nb cr c1 c0
          match l', hl, m2, nb, c0 with
          | q :: l', hl, m2, nb, c0 =>
            rw [List.length_cons, List.length_cons] at hl
            have pm := m1 p (List.mem_cons_self ..)
            have qm := m2 q (List.mem_cons_self ..)
            have w1 := dx1 p pm
            have w2 := dy1 q qm
            obtain ⟨pe, ps3⟩ := px p pm
            obtain ⟨qe, qs3⟩ := py q qm
            have dl : ps.length = done.length + (l.length + 1) := by rw [hps, List.length_append, List.length_cons]
            have ea : a = p.1.1 := na.1
            have eb : b = q.1.1 := nb.1
            have a3 : znf M r0 3 a 1 = 1 - 2 * p.2.1 := by rw [znf_in (by omega), ea]; exact ps3
            have b3 : znf M r2 3 b 1 = 1 - 2 * q.2.1 := by rw [znf_in (by omega), eb]; exact qs3
            have sgp := gx.2.2.2.2.2 p.2 (List.mem_map.mpr ⟨p, pm, rfl⟩)
            have sgq := gy.2.2.2.2.2 q.2 (List.mem_map.mpr ⟨q, qm, rfl⟩)
            refine bX1_orderOf_148 hG h0 h2 ⟨by omega, fun z => absurd z (by omega), fun _ => ⟨fun z => h c (c1 z) cr, fun z => ⟨by omega, ?_⟩⟩⟩
            have f1 : (zq2 (p :: l)).flatMap (zg0 (M (r0 + 1) x)) = zg0 (M (r0 + 1) x) p.2 ++ (zq2 l).flatMap (zg0 (M (r0 + 1) x)) := List.flatMap_cons
            have f2 : (zq2 (q :: l')).flatMap (zg0 (M (r0 + 1) x)) = zg0 (M (r0 + 1) x) q.2 ++ (zq2 l').flatMap (zg0 (M (r0 + 1) x)) := List.flatMap_cons
            have c0' := c0 z
            rw [f1, f2] at c0'
            -- go on behind them
            have cont : ∀ c', -1 ≤ c' ∧ c' ≤ 1 → zoc c' (zg0 (M (r0 + 1) x) p.2) (zg0 (M (r0 + 1) x) q.2) → Y G (d + 2 * n + 1 + 1) mX1_orderOf 177 [(2, r0), (0, x), (2, r2), (0, y), (0, t), (0, c), (0, a), (0, b), (0, (done.length : Int))] [(0, c')] M Q := fun c' cr' hc' => by
              refine bX1_orderOf_177 hG h0 h2 ⟨s0, s2, by omega, ?_⟩
              rw [znf_in (by omega), znf_in (by omega)]
              have := ih l' (done ++ [p]) c' (M (r0 + 7) a) (M (r2 + 7) b) (by omega) (by rw [hps, List.append_assoc]; rfl) (fun s hs => m1 s (List.mem_cons_of_mem _ hs)) (fun s hs => m2 s (List.mem_cons_of_mem _ hs)) (by rw [ea]; exact na.2) (by rw [eb]; exact nb.2) cr' (fun z' => c0' c' (zoc_ne z' hc')) (fun z' c'' hc'' => c0' c'' (zoc_app (hc'.1 z') hc''))
              rw [List.length_append, List.length_singleton, show ((done.length + 1 : Nat) : Int) = done.length + 1 by omega] at this
              exact this
            refine bX1_orderOfTerms_0 hG h0 h2 ?_
            rw [a3, b3]
            refine ⟨s2, s0, fun z2 => ?_, fun z2 => cont _ (zr _ _) ?_⟩
            · rw [zlcmp_eq] at z2
              have sb : p.2.1 = q.2.1 := by omega
              rw [ea, eb]
              refine s_ord hG h0 h2 s0 s2 n p.1.1 p.1.2 q.1.1 q.1.2 (t + 1) p.2.2 q.2.2 (by omega) (by omega) (by omega) (by omega) pe qe d _ (fun c' hc' cr' => bX1_orderOfTerms_34 hG h0 h2 ?_)
              have := cont c' cr' (by
                unfold zg0
                by_cases k2 : M (r0 + 1) x = 2
                · rw [if_pos k2, if_pos k2, sb]; exact zoc_cons hc'
                · rw [if_neg k2, if_neg k2]; exact hc')
              rw [ea, eb] at this
              exact this
            · have k2 : M (r0 + 1) x = 2 := by
                by_cases k2 : M (r0 + 1) x = 2
                · exact k2
                · have e1 := sgp.2 k2
                  have e2 := sgq.2 k2
                  exact absurd (zlcmp_eq.mpr (by omega)) z2
              unfold zg0
              rw [if_pos k2, if_pos k2]
              refine zoc_hd (fun z3 => z2 (zlcmp_eq.mpr (by omega))) ?_
              unfold zlcmp
              by_cases q1 : 1 - 2 * q.2.1 < 1 - 2 * p.2.1
              · rw [if_pos q1, if_pos (by omega)]
              · rw [if_neg q1, if_neg (fun z3 => z2 (zlcmp_eq.mpr z3)), if_neg (by omega), if_neg (fun z3 => z2 (zlcmp_eq.mpr (by omega)))]
      have := lo ps qs [] 0 (M (r0 + 5) x) (M (r2 + 5) y) len rfl (fun p hp => hp) (fun p hp => hp) nx ny (by decide) (fun z => absurd rfl z) (fun _ c' hc' => by
        rw [ex, ey, ← ek, fx, fy]
        rw [hd]
        exact zoc_app rfl hc')
      exact this
    · -- how many
      rw [ex, ey, ← ek, fx]
      rw [← ek] at fy
      rw [fy]
      have k23 : M (r0 + 1) x = 2 ∨ M (r0 + 1) x = 3 := by
        by_cases k23 : M (r0 + 1) x = 2 ∨ M (r0 + 1) x = 3
        · exact k23
        · exfalso
          rw [← ek] at gy
          have k1 := gx.1.1
          apply ec
          rw [cx, cy]
          by_cases c2 : M (r0 + 1) x < 2
          · have u1 := congrArg List.length (gx.2.1 c2)
            have u2 := congrArg List.length (gy.2.1 c2)
            rw [lp] at u1
            rw [lq] at u2
            rw [u1, u2]
          · by_cases c5 : M (r0 + 1) x = 4 ∨ M (r0 + 1) x = 5
            · have u1 := gx.2.2.1 c5
              have u2 := gy.2.2.1 c5
              omega
            · by_cases c10 : M (r0 + 1) x = 10
              · have u1 := gx.2.2.2.2.1 c10
                have u2 := gy.2.2.2.2.1 c10
                omega
              · have u1 := gx.2.2.2.1 (by omega)
                have u2 := gy.2.2.2.1 (by omega)
                omega
      have hh : ∀ v n : Int, zhd0 (M (r0 + 1) x) v n = [M (r0 + 1) x, n] := fun v n => by unfold zhd0; rw [if_neg (by omega), if_pos k23]
      rw [hh, hh, cx, cy]
      show zoc _ (M (r0 + 1) x :: (ps.length : Int) :: _) (M (r0 + 1) x :: (qs.length : Int) :: _)
      refine zoc_cons (zoc_hd (by rw [cx, cy] at ec; exact ec) rfl)
    · rw [ex, ey, ← ek, fx]
      rw [← ek] at fy vy
      rw [fy]
      have hk : M (r0 + 1) x < 2 ∨ M (r0 + 1) x = 10 := by
        by_cases c : M (r0 + 1) x < 2 ∨ M (r0 + 1) x = 10
        · exact c
        · have k1 := gx.1.1
          have u1 := vx (by omega)
          have u2 := vy (by omega)
          exact absurd (by rw [u1, u2]) ev
      have hh : ∀ v n : Int, zhd0 (M (r0 + 1) x) v n = [M (r0 + 1) x, v] := fun v n => by
        unfold zhd0
        rcases hk with q | q
        · rw [if_pos q]
        · rw [if_neg (by omega), if_neg (by omega), if_pos q]
      rw [hh, hh]
      show zoc _ (M (r0 + 1) x :: M (r0 + 2) x :: _) (M (r0 + 1) x :: M (r2 + 2) y :: _)
      exact zoc_cons (zoc_hd ev rfl)
    · rw [ex, ey, hxe, hye]
      exact zoc_hd ek rfl
end YC
