section Y5
variable {G : zG} {d : Nat} {M : zM} {Q : zV → zM → Prop}
def zLs (T : Int → znT) : Nat → List znT
  | 0 => []
  | n + 1 => zLs T n ++ [T n]
def zupT (T : Int → znT) (i : Int) (t : znT) : Int → znT := fun k => if k = i then t else T k
theorem zupT_at (T : Int → znT) (i : Int) (t : znT) : zupT T i t i = t := if_pos rfl
theorem zupT_ne {T : Int → znT} {i k : Int} {t : znT} (h : k ≠ i) : zupT T i t k = T k := if_neg h
theorem zLs_len (T : Int → znT) : ∀ n : Nat, (zLs T n).length = n
  | 0 => rfl
  | n + 1 => by
    show (zLs T n ++ [T n]).length = n + 1
    rw [List.length_append, zLs_len T n]; rfl
theorem zLs_c {T T' : Int → znT} : ∀ n : Nat, (∀ i, 0 ≤ i → i < (n : Int) → T' i = T i) → zLs T' n = zLs T n
  | 0, _ => rfl
  | n + 1, h => by
    show zLs T' n ++ [T' n] = zLs T n ++ [T n]
    rw [zLs_c n (fun i i0 i1 => h i i0 (by omega)), h n (by omega) (by omega)]
theorem zLs_mem {T : Int → znT} {t : znT} : ∀ n : Nat, t ∈ zLs T n ↔ ∃ i : Int, 0 ≤ i ∧ i < (n : Int) ∧ T i = t
  | 0 => ⟨fun h => (List.not_mem_nil h).elim, fun ⟨i, i0, i1, _⟩ => absurd i1 (by omega)⟩
  | n + 1 => by
    show t ∈ zLs T n ++ [T n] ↔ _
    rw [List.mem_append, zLs_mem n, List.mem_singleton]
    constructor
    · rintro (⟨i, i0, i1, e⟩ | e)
      · exact ⟨i, i0, by omega, e⟩
      · exact ⟨n, by omega, by omega, e.symm⟩
    · rintro ⟨i, i0, i1, e⟩
      by_cases c : i = n
      · exact Or.inr (by rw [← e, c])
      · exact Or.inl ⟨i, i0, by omega, e⟩
theorem zLs_cnt {T : Int → znT} {i : Int} {a : znT} (x : znT) : ∀ n : Nat, 0 ≤ i → i < (n : Int) → List.count x (zLs (zupT T i a) n) + (if (T i == x) = true then 1 else 0) = List.count x (zLs T n) + (if (a == x) = true then 1 else 0)
  | 0, i0, i1 => by omega
  | n + 1, i0, i1 => by
    show List.count x (zLs (zupT T i a) n ++ [zupT T i a n]) + _ = List.count x (zLs T n ++ [T n]) + _
    rw [List.count_append, List.count_append, List.count_singleton, List.count_singleton]
    by_cases c : i = n
    · subst c
      rw [zupT_at, zLs_c (T := T) n (fun j j0 j1 => zupT_ne (by omega))]
      omega
    · rw [zupT_ne (fun e => c e.symm)]
      have := zLs_cnt (T := T) (a := a) x n i0 (by omega)
      omega
def zsw (T : Int → znT) (i k : Int) : Int → znT := zupT (zupT T i (T k)) k (T i)
theorem zsw_perm {T : Int → znT} {i k : Int} {n : Nat} (hi : 0 ≤ i ∧ i < (n : Int)) (hk : 0 ≤ k ∧ k < (n : Int)) (hik : i ≠ k) : (zLs (zsw T i k) n).Perm (zLs T n) := by
  rw [List.perm_iff_count]
  intro x
  have a := zLs_cnt (T := T) (i := i) (a := T k) x n hi.1 hi.2
  have b := zLs_cnt (T := zupT T i (T k)) (i := k) (a := T i) x n hk.1 hk.2
  rw [zupT_ne (fun e => hik e.symm)] at b
  unfold zsw
  omega
theorem zLs_pw {T : Int → znT} : ∀ n : Nat, (∀ i j, 0 ≤ i → i < j → j < (n : Int) → znle (T i) (T j)) → (zLs T n).Pairwise znle
  | 0, _ => List.Pairwise.nil
  | n + 1, h => by
    show (zLs T n ++ [T n]).Pairwise znle
    rw [List.pairwise_append]
    refine ⟨zLs_pw n (fun i j i0 ij j1 => h i j i0 ij (by omega)), List.pairwise_singleton _ _, fun a ha b hb => ?_⟩
    obtain ⟨i, i0, i1, e⟩ := (zLs_mem n).mp ha
    rw [← e, List.mem_singleton.mp hb]
    exact h i n i0 (by omega) (by omega)
/-! the model's terms -/
abbrev ztF : List (Int × Int × Int) := [(254, 0, 1000000), (255, 0, 1000000), (256, 0, 1000000), (234, 40, 41)]
def zTm (N : zM) (T : Int → znT) (n : Nat) : Prop := N 234 40 = n ∧ n ≤ 40 ∧ ∀ i, 0 ≤ i → i < (n : Int) → N 254 i = (T i).1 ∧ N 256 i = ((T i).2.length : Int) ∧ (0 ≤ N 255 i ∧ N 255 i + (T i).2.length ≤ 600) ∧ zat (N 251) (N 255 i) (T i).2
theorem zfr_251 {l : List (Int × Int × Int)} {N : zM} (h : zfr ztF M N) : ∀ i, 0 ≤ i → i < 1000000 → N 251 i = M 251 i := fun i i0 i1 => h 251 i (by unfold zhw zhit; simp; omega)
theorem s_addTerm (hG : zP G) {T : Int → znT} {n : Nat} {b from0 : Int} {e : List Int} (hT : zTm M T n) (hn : n < 40) (hf : 0 ≤ from0 ∧ from0 + e.length ≤ 600) (ha : zat (M 251) from0 e) (h : ∀ N, zfr ztF M N → N 251 = M 251 → zTm N (zupT T n (b, e)) (n + 1) → Q (9, 0) N) : Y G d mX12_addTerm 0 [(2, 234), (0, b), (0, from0), (0, from0 + e.length)] [] M Q := by
  obtain ⟨h1, h2, h3⟩ := hT
  refine bX12_addTerm_0 hG ?_
  rw [h1, show from0 + (e.length : Int) - from0 = e.length by omega]
  refine ⟨by omega, by omega, by omega, by omega, by omega, ?_⟩
  have r : zset (zset (zset (zset M 254 n b) 255 n from0) 256 n (e.length : Int)) 234 40 ((n : Int) + 1) 251 = M 251 := by
    rw [zset_off (by decide), zset_off (by decide), zset_off (by decide), zset_off (by decide)]
  refine h _ (zfr_set (zfr_set (zfr_set (zfr_set zfr_rfl (zhit_at 0 rfl ⟨by omega, by omega⟩)) (zhit_at 1 rfl ⟨by omega, by omega⟩)) (zhit_at 2 rfl ⟨by omega, by omega⟩)) (zhit_at 3 rfl ⟨by decide, by decide⟩)) r ⟨?_, by omega, fun i i0 i1 => ?_⟩
  · rw [zset_same]; omega
  · rw [r]
    simp only [zset_ap, Int.reduceEq, ↓reduceIte]
    by_cases c : i = n
    · subst c
      rw [if_pos rfl, if_pos rfl, if_pos rfl, zupT_at]
      exact ⟨rfl, rfl, hf, ha⟩
    · rw [if_neg c, if_neg c, if_neg c, zupT_ne c]
      exact h3 i i0 (by omega)
theorem zxor_b {b c : Int} (hb : b = 0 ∨ b = 1) (hc : c = 0 ∨ c = 1) : zxor b c = zbx b c := by
  rcases hb with rfl | rfl <;> rcases hc with rfl | rfl <;> decide
/-! finding the terms -/
/-- what lies in the row for the last n parts -/
def zpk (N : zM) (E : Int → List Int) (P n : Int) (w : Nat) (a : Int → Int) : Prop := N 234 36 = P ∧ (0 ≤ n ∧ n ≤ P ∧ P < 129) ∧ ∀ j, P - n ≤ j → j < P → N 252 (j + 1) = N 252 j + (E j).length ∧ (0 ≤ N 252 j ∧ N 252 j + (E j).length ≤ 600) ∧ zat (N 251) (N 252 j) (E j) ∧ znk (w + 1) (E j) (a j)
theorem zpk_c {E : Int → List Int} {P n : Int} {w : Nat} {a : Int → Int} {N : zM} (h : zfr ztF M N) (r : N 251 = M 251) (k : zpk M E P n w a) : zpk N E P n w a := by
  obtain ⟨k1, k2, k3⟩ := k
  refine ⟨by rw [h 234 36 (by unfold zhw zhit; decide)]; exact k1, k2, fun j j0 j1 => ?_⟩
  rw [r, h 252 (j + 1) (by unfold zhw zhit; simp; omega), h 252 j (by unfold zhw zhit; simp; omega)]
  exact k3 j j0 j1
theorem znt_app (k : Int) (ap : Bool) (l m : List znT) : znt k ap (l ++ m) = znt k ap l ++ znt k ap m := List.flatMap_append
theorem znt_1 (k : Int) (ap : Bool) (t : znT) : znt k ap [t] = znt1 k ap t := by
  unfold znt
  rw [List.flatMap_cons]; exact List.append_nil _
theorem s_ft114 (hG : zP G) {x1 x2 x3 x4 x5 x7 b : Int} {w : Nat} {e : List Int} {a : Int} (hb : b = 0 ∨ b = 1) (hx : x1 = 2 ∨ x1 = 3) (hi : 0 ≤ x5 ∧ x5 ≤ 1000) (hk : znk (w + 1) e a) (hd : e.head? = some x1) {f0 : Int} (hf : 0 ≤ f0 ∧ f0 + e.length ≤ 600) (ha : zat (M 251) f0 e) (base : List znT) (cap : base.length + (zps e).length ≤ 40)
    (h : ∀ N T n, zfr ztF M N → N 251 = M 251 → zTm N T n → zLs T n = base ++ (zps e).map (fun p => (zbx b p.1, p.2)) → Y G (d + 1) mX12_findTerms 8 [(2, 234), (0, x1), (0, x2), (0, x3), (0, x4), (0, x5 + 1), (9, 0), (9, 0), (9, 0), (9, 0), (9, 0), (9, 0), (9, 0)] [] N Q) :
    ∀ (rem : List znT) (done : List znT) (x9 : Int) (N : zM) (T : Int → znT) (n : Nat), zps e = done ++ rem → zfr ztF M N → N 251 = M 251 → zTm N T n → zLs T n = base ++ done.map (fun p => (zbx b p.1, p.2)) → 0 ≤ x9 → x9 + ((rem.flatMap (fun p => if x1 = 2 then (100 + p.1) :: p.2 else p.2)).length : Int) ≤ 600 → zat (M 251) x9 (rem.flatMap (fun p => if x1 = 2 then (100 + p.1) :: p.2 else p.2)) → Y G (d + 1) mX12_findTerms 114 [(2, 234), (0, x1), (0, x2), (0, x3), (0, x4), (0, x5), (0, f0), (0, x7), (0, b), (0, x9), (0, (done.length : Int)), (9, 0), (9, 0)] [] N Q := by
  obtain ⟨g, ⟨v, q, -⟩, wl⟩ := znk_ps hk hd
  have cnt : M 251 (f0 + 1) = (zps e).length ∧ 2 ≤ e.length := by
    have ha' := ha
    have l2 : 2 ≤ e.length := by
      have := congrArg List.length q
      rcases hx with rfl | rfl
      · rw [znh_len2] at this; omega
      · rw [znh_len3] at this; omega
    refine ⟨?_, l2⟩
    rw [q] at ha'
    unfold znh at ha'
    rw [if_neg (by omega)] at ha'
    rcases hx with rfl | rfl
    · rw [if_pos rfl] at ha'
      exact ha'.2.1
    · rw [if_neg (by decide), if_pos rfl] at ha'
      exact ha'.2.1
  intro rem
  induction rem with
  | nil =>
    intro done x9 N T n hps hN r hT hL x0 x1' hz
    have ln : done.length = (zps e).length := by rw [hps, List.append_nil]
    refine bX12_findTerms_114 hG ?_
    rw [r, cnt.1]
    refine ⟨by omega, by omega, fun _ => ⟨by omega, h N T n hN r hT ?_⟩, fun c => absurd c (by omega)⟩
    rw [hL, hps, List.append_nil]
  | cons p rem ih =>
    intro done x9 N T n hps hN r hT hL x0 x1' hz
    have hp : p ∈ zps e := by rw [hps]; exact List.mem_append_right _ (List.mem_cons_self ..)
    have sg := g.2.2.2.2.2 p hp
    obtain ⟨ap, hap⟩ := znl_mem _ _ wl p hp
    have ln : (zps e).length = done.length + (rem.length + 1) := by rw [hps, List.length_append, List.length_cons]
    have tl := congrArg List.length hL
    rw [zLs_len, List.length_append, List.length_map] at tl
    rw [List.flatMap_cons] at hz x1'
    rw [List.length_append] at x1'
    rw [zat_app] at hz
    -- one more term
    have step : ∀ (st en : Int), st + p.2.length = en → 0 ≤ st → en ≤ 600 → zat (M 251) st p.2 → en + ((rem.flatMap (fun p => if x1 = 2 then (100 + p.1) :: p.2 else p.2)).length : Int) ≤ 600 → zat (M 251) en (rem.flatMap (fun p => if x1 = 2 then (100 + p.1) :: p.2 else p.2)) → Y G d mX12_behind 0 [(2, 234), (0, st), (9, 0), (9, 0), (9, 0)] [] N (fun r M' => Y G (d + 1) mX12_findTerms 171 [(2, 234), (0, x1), (0, x2), (0, x3), (0, x4), (0, x5), (0, f0), (0, x7), (0, b), (0, x9), (0, (done.length : Int)), (0, p.1), (0, st)] (zpush r []) M' Q) := fun st en he s0 s1 hz1 hr1 hr2 => by
      refine s_mbehind hG hap s0 (by omega) (by rw [r]; exact hz1) (bX12_findTerms_171 hG ?_)
      rw [zxor_b hb sg.1]
      refine s_addTerm hG hT (by omega) ⟨s0, by omega⟩ (by rw [r]; exact hz1) (fun N1 hN1 r1 hT1 => bX12_findTerms_186 hG ⟨by omega, ?_⟩)
      rw [he]
      have := ih (done ++ [p]) en N1 (zupT T n (zbx b p.1, p.2)) (n + 1) (by rw [hps, List.append_assoc]; rfl) (zfr_trans hN hN1) (r1.trans r) hT1 ?_ (by omega) hr1 hr2
      · rw [List.length_append] at this
        have e1 : ((done.length + [p].length : Nat) : Int) = done.length + 1 := by rw [List.length_singleton]; omega
        rw [e1] at this
        exact this
      · show zLs (zupT T n (zbx b p.1, p.2)) n ++ [zupT T n (zbx b p.1, p.2) n] = _
        rw [zLs_c (T := T) n (fun i i0 i1 => zupT_ne (by omega)), zupT_at, hL, List.map_append, List.append_assoc]; rfl
    refine bX12_findTerms_114 hG ?_
    rw [r, cnt.1]
    refine ⟨by omega, by omega, fun c => absurd c (by omega), fun _ => ⟨fun c2 => ⟨fun _ => ?_, fun c3 => absurd c3 c2⟩, fun c2 => ?_⟩⟩
    · have k3 : x1 = 3 := by omega
      rw [if_neg c2] at hz x1'
      have p0 : p.1 = 0 := sg.2 (by omega)
      have := step x9 (x9 + p.2.length) rfl x0 (by omega) hz.1 (by omega) hz.2
      rw [p0] at this
      exact this
    · rw [if_pos c2] at hz x1'
      rw [List.length_cons] at x1' hz
      have hz1 := hz.1
      have m0 : M 251 x9 = 100 + p.1 := hz1.1
      rw [m0, show 100 + p.1 - 100 = p.1 by omega]
      refine ⟨by omega, by omega, fun c3 => absurd c2 c3, fun _ => ⟨by omega, ?_⟩⟩
      exact step (x9 + 1) (x9 + 1 + p.2.length) rfl (by omega) (by omega) hz1.2 (by omega) (by have := hz.2; rw [show x9 + ((p.2.length + 1 : Nat) : Int) = x9 + 1 + p.2.length by omega] at this; exact this)
/-- the signs and parts that a step takes -/
def zag (E : Int → List Int) (x3 P n : Int) (i : Int) : znT := (zand (zshr x3 i) 1, E (P - n + i))
theorem s_findTerms (hG : zP G) {x1 x3 x4 P : Int} {n w : Nat} {E : Int → List Int} {a : Int → Int} {ap : Bool} (h4 : x4 = 0 ∧ ap = false ∨ x4 = 1 ∧ ap = true ∧ (x1 = 2 ∨ x1 = 3)) (hK : zpk M E P n w a) (hb : ∀ i, 0 ≤ i → i < (n : Int) → zand (zshr x3 i) 1 = 0 ∨ zand (zshr x3 i) 1 = 1) (cap : (znt x1 ap (zLs (zag E x3 P n) n)).length ≤ 40)
    (h : ∀ N T m, zfr ztF M N → N 251 = M 251 → zTm N T m → zLs T m = znt x1 ap (zLs (zag E x3 P n) n) → Q (9, 0) N) : Y G (d + 1) mX12_findTerms 0 [(2, 234), (0, x1), (0, (n : Int)), (0, x3), (0, x4), (9, 0), (9, 0), (9, 0), (9, 0), (9, 0), (9, 0), (9, 0), (9, 0)] [] M Q := by
  have lp : ∀ (k i : Nat) (N : zM) (T : Int → znT) (m : Nat), i + k = n → zfr ztF M N → N 251 = M 251 → zTm N T m → zLs T m = znt x1 ap (zLs (zag E x3 P n) i) → Y G (d + 1) mX12_findTerms 8 [(2, 234), (0, x1), (0, (n : Int)), (0, x3), (0, x4), (0, (i : Int)), (9, 0), (9, 0), (9, 0), (9, 0), (9, 0), (9, 0), (9, 0)] [] N Q := fun k => by
    induction k with
    | zero =>
      intro i N T m hi hN r hT hL
      have : i = n := by omega
      subst this
      exact bX12_findTerms_8 hG ⟨fun _ => h N T m hN r hT hL, fun c => absurd c (by omega)⟩
    | succ k ih =>
      intro i N T m hi hN r hT hL
      obtain ⟨k1, k2, k3⟩ := zpk_c hN r hK
      obtain ⟨q1, q2, q3, q4⟩ := k3 (P - n + i) (by omega) (by omega)
      have ge := znk_ge q4
      have hbi := hb i (by omega) (by omega)
      have pre : zLs (zag E x3 P n) (i + 1) = zLs (zag E x3 P n) i ++ [zag E x3 P n i] := rfl
      have capi : (znt x1 ap (zLs (zag E x3 P n) (i + 1))).length ≤ 40 := by
        have mono : ∀ t : Nat, (znt x1 ap (zLs (zag E x3 P n) (i + 1))).length ≤ (znt x1 ap (zLs (zag E x3 P n) (i + 1 + t))).length := fun t => by
          induction t with
          | zero => exact Nat.le_refl _
          | succ t iht =>
            show _ ≤ (znt x1 ap (zLs (zag E x3 P n) (i + 1 + t) ++ [zag E x3 P n ((i + 1 + t : Nat) : Int)])).length
            rw [znt_app, List.length_append]; omega
        have := mono k
        rw [show i + 1 + k = n by omega] at this
        omega
      rw [pre, znt_app, znt_1, ← hL, List.length_append, zLs_len] at capi
      have e0 : N 234 36 - (n : Int) + i = P - n + i := by omega
      -- it is one term
      have one : ¬ (ap = true ∧ (E (P - n + i)).head? = some x1) → ∀ en, en = N 252 (P - n + i) + (E (P - n + i)).length → ∀ x7 : Int, Y G d mX12_addTerm 0 [(2, 234), (0, zand (zshr x3 i) 1), (0, N 252 (P - n + i)), (0, en)] [] N (fun r M' => Y G (d + 1) mX12_findTerms 102 [(2, 234), (0, x1), (0, (n : Int)), (0, x3), (0, x4), (0, (i : Int)), (0, N 252 (P - n + i)), (0, x7), (0, zand (zshr x3 i) 1), (9, 0), (9, 0), (9, 0), (9, 0)] (zpush r []) M' Q) := fun no en he x7 => by
        have e1 : znt1 x1 ap (zag E x3 P n i) = [zag E x3 P n i] := if_neg no
        rw [e1] at capi
        rw [he]
        refine s_addTerm hG hT (by have : [zag E x3 P n i].length = 1 := rfl; omega) q2 q3 (fun N1 hN1 r1 hT1 => bX12_findTerms_102 hG ⟨by omega, ?_⟩)
        refine ih (i + 1) N1 _ _ (by omega) (zfr_trans hN hN1) (r1.trans r) hT1 ?_
        rw [pre, znt_app, znt_1, e1, ← hL]
        show zLs (zupT T m _) m ++ [zupT T m _ m] = _
        rw [zLs_c (T := T) m (fun i i0 i1 => zupT_ne (by omega)), zupT_at]; rfl
      -- it falls apart
      have apart : ap = true → (E (P - n + i)).head? = some x1 → (x1 = 2 ∨ x1 = 3) → ∀ x7 : Int, Y G (d + 1) mX12_findTerms 114 [(2, 234), (0, x1), (0, (n : Int)), (0, x3), (0, x4), (0, (i : Int)), (0, N 252 (P - n + i)), (0, x7), (0, zand (zshr x3 i) 1), (0, N 252 (P - n + i) + 2), (0, 0), (9, 0), (9, 0)] [] N Q := fun hap hd hx x7 => by
        have e1 : znt1 x1 ap (zag E x3 P n i) = (zps (E (P - n + i))).map (fun p => (zbx (zand (zshr x3 i) 1) p.1, p.2)) := if_pos ⟨hap, hd⟩
        rw [e1, List.length_map] at capi
        obtain ⟨g, ⟨v, qe, -⟩, wl⟩ := znk_ps q4 hd
        have fl : E (P - n + i) = x1 :: ((zps (E (P - n + i))).length : Int) :: (zps (E (P - n + i))).flatMap (fun p => if x1 = 2 then (100 + p.1) :: p.2 else p.2) := by
          rcases hx with rfl | rfl
          · exact qe
          · exact qe
        have l2 := congrArg List.length fl
        rw [List.length_cons, List.length_cons] at l2
        have q3' : zat (M 251) (N 252 (P - n + i)) (E (P - n + i)) := by rw [← r]; exact q3
        refine s_ft114 hG hbi hx (by omega) q4 hd q2 (by rw [← r]; exact q3) (zLs T m) (by rw [zLs_len]; omega) (fun N1 T1 n1 hN1 r1 hT1 hL1 => ?_) (zps (E (P - n + i))) [] _ N T m rfl hN r hT (by rw [List.map_nil, List.append_nil]) (by omega) (by omega) ?_
        · refine ih (i + 1) N1 T1 n1 (by omega) hN1 r1 hT1 ?_
          rw [pre, znt_app, znt_1, e1, ← hL, hL1]
        · rw [fl] at q3'
          have := q3'.2.2
          rw [show N 252 (P - n + i) + 1 + 1 = N 252 (P - n + i) + 2 by omega] at this
          exact this
      have hd := zat_hd (a := x1) q3 ge
      have no0 : x4 = 0 → ¬ (ap = true ∧ (E (P - n + i)).head? = some x1) := fun z q => by
        rcases h4 with ⟨_, w⟩ | ⟨w, _⟩
        · rw [w] at q; exact absurd q.1 (by decide)
        · omega
      refine bX12_findTerms_8 hG ?_
      rw [e0, q1, k1]
      refine ⟨fun c => absurd c (by omega), fun _ => ⟨by omega, by omega, by omega, by omega, fun c => ⟨by omega, by omega, by omega, by omega, fun z => one (no0 z) _ rfl _, fun z => ⟨by omega, fun z2 => ⟨by omega, ?_⟩, fun z2 => one (fun q => z2 (hd.mpr q.2)) _ rfl _⟩⟩, fun c => ⟨by omega, fun z => one (no0 z) _ ?_ _, fun z => ⟨by omega, fun z2 => ⟨by omega, ?_⟩, fun z2 => one (fun q => z2 (hd.mpr q.2)) _ ?_ _⟩⟩⟩⟩
      · rcases h4 with ⟨w, _⟩ | ⟨_, w, hx⟩
        · omega
        · exact apart w (hd.mp z2) hx _
      · rw [← q1, show P - (n : Int) + i + 1 = P by omega]
      · rcases h4 with ⟨w, _⟩ | ⟨_, w, hx⟩
        · omega
        · exact apart w (hd.mp z2) hx _
      · rw [← q1, show P - (n : Int) + i + 1 = P by omega]
  refine bX12_findTerms_0 hG (lp n 0 _ (fun _ => (0, [])) 0 (by omega) (zfr_set zfr_rfl (zhit_at 3 rfl ⟨by decide, by decide⟩)) (zset_off (by decide)) ⟨zset_same, by omega, fun i i0 i1 => absurd i1 (by omega)⟩ rfl)
end Y5
