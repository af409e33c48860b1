section Y7
variable {G : zG} {d : Nat} {M : zM} {Q : zV → zM → Prop}
theorem zat_sh {R R' : Int → Int} : ∀ (l : List Int) (k k' : Int), (∀ i, 0 ≤ i → i < (l.length : Int) → R' (k' + i) = R (k + i)) → zat R k l → zat R' k' l
  | [], _, _, _, _ => trivial
  | a :: l, k, k', e, h => by
    rw [List.length_cons] at e
    refine ⟨?_, zat_sh l (k + 1) (k' + 1) (fun i i0 i1 => ?_) h.2⟩
    · have := e 0 (by omega) (by omega)
      rw [Int.add_zero, Int.add_zero] at this
      rw [this]; exact h.1
    · have := e (i + 1) (by omega) (by omega)
      rw [show k' + 1 + i = k' + (i + 1) by omega, show k + 1 + i = k + (i + 1) by omega]; exact this
theorem zat_snoc {N : zM} {wr : List Int} {v : Int} (h : zat (N 253) 0 wr) : zat (zset N 253 wr.length v 253) 0 (wr ++ [v]) := by
  rw [zat_app]
  refine ⟨zat_c wr 0 (fun i i0 i1 => zset_ne (fun q => by have := q.2; omega)) h, ?_, trivial⟩
  rw [Int.zero_add]; exact zset_same
def zupE (E : Int → List Int) (i : Int) (e : List Int) : Int → List Int := fun k => if k = i then e else E k
theorem zupE_at (E : Int → List Int) (i : Int) (e : List Int) : zupE E i e i = e := if_pos rfl
theorem zupE_ne {E : Int → List Int} {i k : Int} {e : List Int} (h : k ≠ i) : zupE E i e k = E k := if_neg h
/-- the stack of what is said -/
def zSt (N : zM) (E : Int → List Int) (P : Int) (w : Nat) (a : Int → Int) (B : Int) : Prop := N 234 36 = P ∧ (0 ≤ P ∧ P ≤ 128) ∧ N 252 0 = 0 ∧ N 252 P + P ≤ B ∧ ∀ j, 0 ≤ j → j < P → N 252 (j + 1) = N 252 j + (E j).length ∧ zat (N 251) (N 252 j) (E j) ∧ znk (w + 1) (E j) (a j)
theorem zSt_mo {N : zM} {E : Int → List Int} {P B : Int} {w : Nat} {a : Int → Int} (h : zSt N E P w a B) : ∀ (k : Nat) (i : Int), 0 ≤ i → i + k ≤ P → N 252 i ≤ N 252 (i + k)
  | 0, i, _, _ => by show _ ≤ N 252 (i + 0); rw [Int.add_zero]; exact Int.le_refl _
  | k + 1, i, i0, i1 => by
    have := zSt_mo h k i i0 (by omega)
    have := (h.2.2.2.2 (i + k) (by omega) (by omega)).1
    rw [show i + ((k + 1 : Nat) : Int) = i + k + 1 by omega]; omega
theorem zSt_0 {N : zM} {E : Int → List Int} {P B : Int} {w : Nat} {a : Int → Int} (h : zSt N E P w a B) {i : Int} (i0 : 0 ≤ i) (i1 : i ≤ P) : 0 ≤ N 252 i ∧ N 252 i ≤ N 252 P := by
  have x := zSt_mo h i.toNat 0 (by omega) (by omega)
  have y := zSt_mo h (P - i).toNat i i0 (by omega)
  rw [show (0 : Int) + (i.toNat : Int) = i by omega, h.2.2.1] at x
  rw [show i + ((P - i).toNat : Int) = P by omega] at y
  exact ⟨x, y⟩
theorem zSt_pk {N : zM} {E : Int → List Int} {P B n : Int} {w : Nat} {a : Int → Int} (h : zSt N E P w a B) (hB : B ≤ 600) (hn : 0 ≤ n ∧ n ≤ P) : zpk N E P n w a := by
  refine ⟨h.1, ⟨hn.1, hn.2, by have := h.2.1; omega⟩, fun j j0 j1 => ?_⟩
  obtain ⟨q1, q2, q3⟩ := h.2.2.2.2 j (by omega) j1
  have b := h.2.2.2.1
  have p := h.2.1
  have x := zSt_0 h (i := j) (by omega) (by omega)
  have y := zSt_0 h (i := j + 1) (by omega) (by omega)
  exact ⟨q1, by omega, q2, q3⟩
abbrev zwF : List (Int × Int × Int) := [(253, 0, 1000000), (254, 0, 1000000), (255, 0, 1000000), (256, 0, 1000000), (234, 40, 41)]
abbrev zmF : List (Int × Int × Int) := [(251, 0, 1000000), (252, 0, 1000000), (253, 0, 1000000), (254, 0, 1000000), (255, 0, 1000000), (256, 0, 1000000), (234, 36, 37), (234, 40, 41)]
theorem zSt_c {N : zM} {E : Int → List Int} {P B : Int} {w : Nat} {a : Int → Int} (h : zfr zwF M N) (hB : B ≤ 600) (k : zSt M E P w a B) : zSt N E P w a B := by
  obtain ⟨k1, k2, k3, k4, k5⟩ := id k
  refine ⟨by rw [h 234 36 (by unfold zhw zhit; decide)]; exact k1, k2, by rw [h 252 0 (by unfold zhw zhit; decide)]; exact k3, by rw [h 252 P (by unfold zhw zhit; simp; omega)]; exact k4, fun j j0 j1 => ?_⟩
  rw [h 252 (j + 1) (by unfold zhw zhit; simp; omega), h 252 j (by unfold zhw zhit; simp; omega)]
  obtain ⟨q1, q2, q3⟩ := k5 j j0 j1
  have x := zSt_0 k (i := j) (by omega) (by omega)
  have y := zSt_0 k (i := j + 1) (by omega) (by omega)
  exact ⟨q1, zat_c _ _ (fun i i0 i1 => h 251 i (by unfold zhw zhit; simp; omega)) q2, q3⟩
theorem s_put23 (hG : zP G) {x1 f0 : Int} {r : List Int} (hr : zat (M 253) 0 r) (hf : 0 ≤ f0 ∧ f0 + r.length ≤ 600) (h : ∀ N, zfr [(251, 0, 1000000)] M N → zat (N 251) f0 r → (∀ x, x < f0 → N 251 x = M 251 x) → Y G d mX12_put 23 [(2, 234), (0, x1), (0, (r.length : Int)), (0, f0), (0, (r.length : Int))] [] N Q) : ∀ (k i : Nat) (N : zM), i + k = r.length → zfr [(251, 0, 1000000)] M N → (∀ j, 0 ≤ j → j < (i : Int) → N 251 (f0 + j) = M 253 j) → (∀ x, x < f0 → N 251 x = M 251 x) → Y G d mX12_put 23 [(2, 234), (0, x1), (0, (r.length : Int)), (0, f0), (0, (i : Int))] [] N Q
  | 0, i, N, hi, hN, hA, hB => by
    have : i = r.length := by omega
    subst this
    exact h N hN (zat_sh r 0 f0 (fun i i0 i1 => by rw [Int.zero_add]; exact hA i i0 i1) hr) hB
  | k + 1, i, N, hi, hN, hA, hB => by
    have e : N 253 i = M 253 i := hN 253 i (by unfold zhw zhit; simp; omega)
    refine bX12_put_23 hG ?_
    rw [e]
    refine ⟨fun c => absurd c (by omega), fun _ => ⟨by omega, by omega, by omega, by omega, ?_⟩⟩
    refine s_put23 hG hr hf h k (i + 1) _ (by omega) (zfr_set hN (zhit_at 0 rfl ⟨by omega, by omega⟩)) (fun j j0 j1 => ?_) (fun x hx => ?_)
    · by_cases c : j = i
      · subst c; exact zset_same
      · rw [zset_ne (fun q => c (by have := q.2; omega))]; exact hA j j0 (by omega)
    · rw [zset_ne (fun q => by have := q.2; omega)]; exact hB x hx
theorem s_mput (hG : zP G) {E : Int → List Int} {P B n m : Int} {w : Nat} {a : Int → Int} {r : List Int} (hS : zSt M E P w a B) (hn : 1 ≤ n ∧ n ≤ P) (hB : B + 3 ≤ 600) (hr : zat (M 253) 0 r) (hl : (r.length : Int) ≤ 2 + (M 252 P - M 252 (P - n)) + n) (hk : znk (w + 2) r m) (h : ∀ N, zfr zmF M N → zSt N (zupE E (P - n) r) (P - n + 1) (w + 1) (zup a (P - n) m) (B + 3) → Q (9, 0) N) : Y G d mX12_put 0 [(2, 234), (0, n), (0, (r.length : Int)), (9, 0), (9, 0)] [] M Q := by
  obtain ⟨k1, k2, k3, k4, k5⟩ := id hS
  have p0 := zSt_0 hS (i := P - n) (by omega) (by omega)
  refine bX12_put_0 hG ?_
  rw [k1]
  refine ⟨by omega, by omega, ?_⟩
  refine s_put23 hG (by rw [zset_off (by decide)]; exact hr) ⟨p0.1, by omega⟩ (fun N hN hz hB2 => ?_) r.length 0 _ (by omega) zfr_rfl (fun j j0 j1 => absurd j1 (by omega)) (fun x hx => rfl)
  have e36 : N 234 36 = P - n := by rw [hN 234 36 (by unfold zhw zhit; decide)]; exact zset_same
  have e252 : ∀ j, 0 ≤ j → j < 1000000 → N 252 j = M 252 j := fun j j0 j1 => by rw [hN 252 j (by unfold zhw zhit; simp; omega), zset_off (by decide)]
  refine bX12_put_23 hG ⟨fun _ => ?_, fun c => absurd c (by omega)⟩
  rw [e36]
  refine ⟨by omega, by omega, by omega, h _ ?_ ⟨?_, by omega, ?_, ?_, fun j j0 j1 => ?_⟩⟩
  · exact zfr_set (zfr_set (zfr_trans (zfr_set zfr_rfl (zhit_at 6 rfl ⟨by decide, by decide⟩)) (zfr_sub hN (by decide))) (zhit_at 6 rfl ⟨by decide, by decide⟩)) (zhit_at 1 rfl ⟨by omega, by omega⟩)
  · rw [zset_off (by decide)]; exact zset_same
  · rw [zset_ne (fun q => by have := q.2; omega), zset_off (by decide), e252 0 (by omega) (by omega)]; exact k3
  · rw [zset_same]; omega
  · have r251 : ∀ (X : zM) (u v : Int), zset (zset N 234 36 u) 252 (P - n + 1) v 251 = N 251 := fun X u v => by rw [zset_off (by decide), zset_off (by decide)]
    rw [r251 M]
    by_cases c : j = P - n
    · subst c
      rw [zset_same, zset_ne (fun q => by have := q.2; omega), zset_off (by decide), e252 (P - n) (by omega) (by omega), zupE_at, zup_at]
      exact ⟨rfl, hz, hk⟩
    · have g : ∀ (u v x : Int), x ≠ P - n + 1 → 0 ≤ x → x < 1000000 → zset (zset N 234 36 u) 252 (P - n + 1) v 252 x = M 252 x := fun u v x x0 x1 x2 => by
        rw [zset_ne (fun q => x0 q.2), zset_off (by decide), e252 x x1 x2]
      rw [g _ _ j (by omega) (by omega) (by omega), g _ _ (j + 1) (by omega) (by omega) (by omega), zupE_ne c, zup_ne c]
      obtain ⟨q1, q2, q3⟩ := k5 j j0 (by omega)
      have y := zSt_mo hS (P - n - (j + 1)).toNat (j + 1) (by omega) (by omega)
      rw [show j + 1 + ((P - n - (j + 1)).toNat : Int) = P - n by omega] at y
      refine ⟨q1, zat_c _ _ (fun i i0 i1 => ?_) q2, znk_le (by omega) (Int.le_refl _) q3⟩
      rw [hB2 i (by omega), zset_off (by decide)]
/-! terms into the work row -/
theorem s_208 (hG : zP G) {x1 x2 x3 x4 x5 x7 : Int} (h7 : 0 ≤ x7 ∧ x7 < 40) : ∀ (l : List Int) (x8 : Int) (wr : List Int) (N : zM), zfr [(253, 0, 1000000)] M N → zat (N 253) 0 wr → wr.length + l.length ≤ 600 → 0 ≤ x8 → 0 ≤ M 255 x7 → M 255 x7 + x8 + l.length ≤ 600 → zat (M 251) (M 255 x7 + x8) l → x8 + l.length = M 256 x7 → (∀ N', zfr [(253, 0, 1000000)] M N' → zat (N' 253) 0 (wr ++ l) → Y G (d + 1) mX12_saySum 166 [(2, 234), (0, x1), (0, x2), (0, x3), (0, x4), (0, x5), (0, ((wr ++ l).length : Int)), (0, x7 + 1), (9, 0)] [] N' Q) → Y G (d + 1) mX12_saySum 208 [(2, 234), (0, x1), (0, x2), (0, x3), (0, x4), (0, x5), (0, (wr.length : Int)), (0, x7), (0, x8)] [] N Q
  | [], x8, wr, N, hN, hw, hl, x0, f0, f1, ha, he, h => by
    have e : N 256 x7 = M 256 x7 := hN 256 x7 (by unfold zhw zhit; simp; omega)
    have he' : x8 + 0 = M 256 x7 := he
    have := h N hN (by rw [List.append_nil]; exact hw)
    rw [List.append_nil] at this
    refine bX12_saySum_208 hG ⟨by omega, fun _ => ⟨by omega, this⟩, fun c => absurd c (by omega)⟩
  | b :: l, x8, wr, N, hN, hw, hl, x0, f0, f1, ha, he, h => by
    rw [List.length_cons] at hl f1 he
    have e : N 256 x7 = M 256 x7 := hN 256 x7 (by unfold zhw zhit; simp; omega)
    have e5 : N 255 x7 = M 255 x7 := hN 255 x7 (by unfold zhw zhit; simp; omega)
    have e1 : N 251 (M 255 x7 + x8) = b := by rw [hN 251 _ (by unfold zhw zhit; simp; omega)]; exact ha.1
    refine bX12_saySum_208 hG ?_
    rw [e, e5, e1]
    refine ⟨by omega, fun c => absurd c (by omega), fun _ => ⟨by omega, by omega, by omega, by omega, by omega, by omega, ?_⟩⟩
    have := s_208 (x1 := x1) (x2 := x2) (x3 := x3) (x4 := x4) (x5 := x5) hG h7 l (x8 + 1) (wr ++ [b]) (zset N 253 wr.length b) (zfr_set hN (zhit_at 0 rfl ⟨by omega, by omega⟩)) (zat_snoc hw) (by rw [List.length_append, List.length_singleton]; omega) (by omega) f0 (by omega) (by have := ha.2; rw [show M 255 x7 + x8 + 1 = M 255 x7 + (x8 + 1) by omega] at this; exact this) (by omega) (fun N' hN' hz => by
      rw [List.append_assoc] at hz ⊢
      exact h N' hN' hz)
    rw [List.length_append, List.length_singleton, show ((wr.length + 1 : Nat) : Int) = wr.length + 1 by omega] at this
    exact this
theorem s_166 (hG : zP G) {x1 x2 x3 x4 x5 : Int} {T : Int → znT} {n : Nat} (hT : zTm M T n) (g : znT → List Int) (hg : ∀ t, g t = if x1 = 2 ∧ x5 = 0 then (100 + t.1) :: t.2 else t.2) (hd : List Int) (cap : hd.length + ((zLs T n).flatMap g).length ≤ 600) (hb : ∀ t ∈ zLs T n, t.1 = 0 ∨ t.1 = 1) (h : ∀ N, zfr [(253, 0, 1000000)] M N → zat (N 253) 0 (hd ++ (zLs T n).flatMap g) → Y G (d + 1) mX12_saySum 166 [(2, 234), (0, x1), (0, x2), (0, x3), (0, x4), (0, x5), (0, ((hd ++ (zLs T n).flatMap g).length : Int)), (0, (n : Int)), (9, 0)] [] N Q) : ∀ (k i : Nat) (N : zM), i + k = n → zfr [(253, 0, 1000000)] M N → zat (N 253) 0 (hd ++ (zLs T i).flatMap g) → Y G (d + 1) mX12_saySum 166 [(2, 234), (0, x1), (0, x2), (0, x3), (0, x4), (0, x5), (0, ((hd ++ (zLs T i).flatMap g).length : Int)), (0, (i : Int)), (9, 0)] [] N Q
  | 0, i, N, hi, hN, hz => by
    have : i = n := by omega
    subst this
    exact h N hN hz
  | k + 1, i, N, hi, hN, hz => by
    obtain ⟨t1, t2, t3⟩ := id hT
    obtain ⟨a1, a2, a3, a4⟩ := t3 i (by omega) (by omega)
    have hbi := hb (T i) ((zLs_mem n).mpr ⟨i, by omega, by omega, rfl⟩)
    have e40 : N 234 40 = n := by rw [hN 234 40 (by unfold zhw zhit; decide)]; exact t1
    have pre : ∀ i : Nat, (zLs T (i + 1)).flatMap g = (zLs T i).flatMap g ++ g (T i) := fun i => by
      show (zLs T i ++ [T i]).flatMap g = _
      rw [List.flatMap_append, List.flatMap_cons]
      show _ ++ (g (T i) ++ []) = _
      rw [List.append_nil]
    have mono : ∀ t : Nat, ((zLs T (i + 1)).flatMap g).length ≤ ((zLs T (i + 1 + t)).flatMap g).length := fun t => by
      induction t with
      | zero => exact Nat.le_refl _
      | succ t iht => rw [show i + 1 + (t + 1) = i + 1 + t + 1 by omega, pre (i + 1 + t), List.length_append]; omega
    have m1 := mono k
    rw [show i + 1 + k = n by omega, pre i, List.length_append] at m1
    have nx := s_166 hG hT g hg hd cap hb h k (i + 1)
    rw [pre i, ← List.append_assoc] at nx
    have e4 : N 254 i = (T i).1 := by rw [hN 254 i (by unfold zhw zhit; simp; omega)]; exact a1
    have lw : (hd ++ (zLs T i).flatMap g).length = hd.length + ((zLs T i).flatMap g).length := List.length_append
    have plain : ∀ (wr : List Int) (N : zM), zfr [(253, 0, 1000000)] M N → zat (N 253) 0 wr → wr.length + (T i).2.length ≤ 600 → wr ++ (T i).2 = (hd ++ (zLs T i).flatMap g) ++ g (T i) → Y G (d + 1) mX12_saySum 208 [(2, 234), (0, x1), (0, x2), (0, x3), (0, x4), (0, x5), (0, (wr.length : Int)), (0, (i : Int)), (0, 0)] [] N Q := fun wr N hN hz hl he => by
      refine s_208 hG (by omega) (T i).2 0 wr N hN hz hl (by omega) a3.1 (by omega) (by rw [Int.add_zero]; exact a4) (by rw [a2]; omega) (fun N' hN' hz' => ?_)
      rw [he] at hz' ⊢
      exact nx N' (by omega) hN' hz'
    refine bX12_saySum_166 hG ?_
    rw [e40, e4]
    refine ⟨fun c => absurd c (by omega), fun _ => ⟨fun c => ?_, fun c => ⟨fun c2 => ?_, fun c2 => ⟨by omega, by omega, ?_, by omega, ?_⟩⟩⟩⟩
    · have gg : g (T i) = (T i).2 := by rw [hg, if_neg (fun q => c q.1)]
      rw [gg] at m1
      exact plain _ N hN hz (by omega) (by rw [gg])
    · have gg : g (T i) = (T i).2 := by rw [hg, if_neg (fun q => c2 q.2)]
      rw [gg] at m1
      exact plain _ N hN hz (by omega) (by rw [gg])
    · have gg : g (T i) = (100 + (T i).1) :: (T i).2 := by rw [hg, if_pos ⟨c, c2⟩]
      rw [gg, List.length_cons] at m1
      omega
    · have gg : g (T i) = (100 + (T i).1) :: (T i).2 := by rw [hg, if_pos ⟨c, c2⟩]
      rw [gg, List.length_cons] at m1
      have := plain ((hd ++ (zLs T i).flatMap g) ++ [100 + (T i).1]) (zset N 253 ((hd ++ (zLs T i).flatMap g).length : Int) (100 + (T i).1)) (zfr_set hN (zhit_at 0 rfl ⟨by omega, by omega⟩)) (zat_snoc hz) (by rw [List.length_append, List.length_singleton]; omega) (by rw [gg, List.append_assoc]; rfl)
      rw [List.length_append, List.length_singleton, show (((hd ++ (zLs T i).flatMap g).length + 1 : Nat) : Int) = (hd ++ (zLs T i).flatMap g).length + 1 by omega] at this
      exact this
theorem s_putNumber (hG : zP G) {E : Int → List Int} {P B n m v : Int} {w : Nat} {a : Int → Int} (hS : zSt M E P w a B) (hn : 1 ≤ n ∧ n ≤ P) (hB : B + 3 ≤ 600) (hm : 1 ≤ m) (hv : zb6 v) (h : ∀ N, zfr zmF M N → zSt N (zupE E (P - n) [0, v]) (P - n + 1) (w + 1) (zup a (P - n) m) (B + 3) → Q (9, 0) N) : Y G (d + 1) mX12_putNumber 0 [(2, 234), (0, n), (0, v)] [] M Q := by
  have hf : zfr zwF M (zset (zset M 253 0 0) 253 1 v) := zfr_set (zfr_set zfr_rfl (zhit_at 0 rfl ⟨by decide, by decide⟩)) (zhit_at 0 rfl ⟨by decide, by decide⟩)
  have hS' := zSt_c hf (by omega) hS
  have p := zSt_0 hS' (i := P - n) (by omega) (by omega)
  refine bX12_putNumber_0 hG ?_
  have := s_mput (r := [0, v]) (m := m) (Q := fun r M' => Y G (d + 1) mX12_putNumber 20 [(2, 234), (0, n), (0, v)] (zpush r []) M' Q) (d := d) hG hS' hn hB ⟨by rw [zset_ne (fun q => by have := q.2; omega)]; exact zset_same, zset_same, trivial⟩ (by show (2 : Int) ≤ _; omega) (znk_num hm hv) (fun N hN hs => bX12_putNumber_20 hG (h N (zfr_trans (zfr_sub hf (by decide)) hN) hs))
  exact this
end Y7
