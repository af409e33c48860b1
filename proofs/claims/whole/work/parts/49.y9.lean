section Y9
variable {G : zG} {d : Nat} {M : zM} {Q : zV → zM → Prop}
theorem zTm_c {T : Int → znT} {n : Nat} {N : zM} (h : zfr [(253, 0, 1000000)] M N) (k : zTm M T n) : zTm N T n := by
  obtain ⟨t1, t2, t3⟩ := k
  refine ⟨by rw [h 234 40 (by unfold zhw zhit; decide)]; exact t1, t2, fun i i0 i1 => ?_⟩
  rw [h 254 i (by unfold zhw zhit; simp; omega), h 255 i (by unfold zhw zhit; simp; omega), h 256 i (by unfold zhw zhit; simp; omega)]
  obtain ⟨a1, a2, a3, a4⟩ := t3 i i0 i1
  exact ⟨a1, a2, a3, zat_c _ _ (fun x x0 x1 => h 251 x (by unfold zhw zhit; simp; omega)) a4⟩
theorem s_lay5 (hG : zP G) {x1 x2 : Int} (h7 : 0 ≤ x2 ∧ x2 < 40) : ∀ (l : List Int) (x8 : Int) (wr : List Int) (N : zM), zfr [(253, 0, 1000000)] M N → zat (N 253) 0 wr → wr.length + l.length ≤ 600 → 0 ≤ x8 → 0 ≤ M 255 x2 → M 255 x2 + x8 + l.length ≤ 600 → zat (M 251) (M 255 x2 + x8) l → x8 + l.length = M 256 x2 → (∀ N', zfr [(253, 0, 1000000)] M N' → zat (N' 253) 0 (wr ++ l) → Q (0, ((wr ++ l).length : Int)) N') → Y G d mX12_lay 5 [(2, 234), (0, x1), (0, x2), (0, (wr.length : Int)), (0, x8)] [] N Q
  | [], x8, wr, N, hN, hw, hl, x0, f0, f1, ha, he, h => by
    have e : N 256 x2 = M 256 x2 := hN 256 x2 (by unfold zhw zhit; simp; omega)
    have he' : x8 + 0 = M 256 x2 := he
    have := h N hN (by rw [List.append_nil]; exact hw)
    rw [List.append_nil] at this
    exact bX12_lay_5 hG ⟨by omega, fun _ => this, fun c => absurd c (by omega)⟩
  | b :: l, x8, wr, N, hN, hw, hl, x0, f0, f1, ha, he, h => by
    rw [List.length_cons] at hl f1 he
    have e : N 256 x2 = M 256 x2 := hN 256 x2 (by unfold zhw zhit; simp; omega)
    have e5 : N 255 x2 = M 255 x2 := hN 255 x2 (by unfold zhw zhit; simp; omega)
    have e1 : N 251 (M 255 x2 + x8) = b := by rw [hN 251 _ (by unfold zhw zhit; simp; omega)]; exact ha.1
    refine bX12_lay_5 hG ?_
    rw [e, e5, e1]
    refine ⟨by omega, fun c => absurd c (by omega), fun _ => ⟨by omega, by omega, by omega, by omega, by omega, by omega, ?_⟩⟩
    have := s_lay5 (x1 := x1) hG h7 l (x8 + 1) (wr ++ [b]) (zset N 253 wr.length b) (zfr_set hN (zhit_at 0 rfl ⟨by omega, by omega⟩)) (zat_snoc hw) (by rw [List.length_append, List.length_singleton]; omega) (by omega) f0 (by omega) (by have := ha.2; rw [show M 255 x2 + x8 + 1 = M 255 x2 + (x8 + 1) by omega] at this; exact this) (by omega) (fun N' hN' hz => by
      rw [List.append_assoc] at hz ⊢
      exact h N' hN' hz)
    rw [List.length_append, List.length_singleton, show ((wr.length + 1 : Nat) : Int) = wr.length + 1 by omega] at this
    exact this
theorem s_lay (hG : zP G) {T : Int → znT} {n : Nat} {k : Int} {wr : List Int} (hT : zTm M T n) (hk : 0 ≤ k ∧ k < (n : Int)) (hw : zat (M 253) 0 wr) (cap : wr.length + (T k).2.length ≤ 600) (h : ∀ N, zfr [(253, 0, 1000000)] M N → zTm N T n → zat (N 253) 0 (wr ++ (T k).2) → Q (0, ((wr ++ (T k).2).length : Int)) N) : Y G d mX12_lay 0 [(2, 234), (0, (wr.length : Int)), (0, k), (9, 0), (9, 0)] [] M Q := by
  obtain ⟨a1, a2, a3, a4⟩ := hT.2.2 k hk.1 hk.2
  have := hT.2.1
  exact bX12_lay_0 hG (s_lay5 hG (by omega) (T k).2 0 wr M zfr_rfl hw cap (by omega) a3.1 (by omega) (by rw [Int.add_zero]; exact a4) (by rw [a2]; omega) (fun N hN hz => h N hN (zTm_c hN hT) hz))
theorem s_mareAlike (hG : zP G) {T : Int → znT} {n : Nat} {i k : Int} (hT : zTm M T n) (hi : 0 ≤ i ∧ i < (n : Int)) (hk : 0 ≤ k ∧ k < (n : Int)) (h1 : (T i).2 = (T k).2 → Q (0, 1) M) (h0 : (T i).2 ≠ (T k).2 → Q (0, 0) M) : Y G (d + 1) mX12_areAlike 0 [(2, 234), (0, i), (0, k)] [] M Q := by
  obtain ⟨t1, t2, t3⟩ := hT
  obtain ⟨a1, a2, a3, a4⟩ := t3 i hi.1 hi.2
  obtain ⟨b1, b2, b3, b4⟩ := t3 k hk.1 hk.2
  refine bX12_areAlike_0 hG ?_
  rw [a2, b2]
  refine ⟨by omega, by omega, by omega, by omega, ?_⟩
  refine s_compared hG a3 b3 a4 b4 (fun x x1 x2 => bX12_areAlike_28 hG ⟨fun z => h0 (fun q => z (x2.mpr (by rw [q]; exact znc_self _))), fun z => h1 (znc_0 _ _ (x2.mp z))⟩)
theorem znt_f (k : Int) (l : List znT) : znt k false l = l := by
  unfold znt
  induction l with
  | nil => rfl
  | cons t l ih =>
    rw [List.flatMap_cons, ih]
    have : znt1 k false t = [t] := if_neg (fun q => absurd q.1 (by decide))
    rw [this]; rfl
theorem zsh0 {i : Int} (hi : 0 ≤ i ∧ i < 32) : zand (zshr 0 i) 1 = 0 := by
  rw [zbt_c (by decide) hi]
  unfold zbt
  exact Nat.zero_testBit _
theorem znso_2 (x y : znT) : znso [x, y] = if x.1 < y.1 ∨ (x.1 = y.1 ∧ znc x.2 y.2 ≤ 0) then [x, y] else [y, x] := rfl
/-- the terms as they are -/
theorem s_ft0 (hG : zP G) {P B : Int} {n w : Nat} {E : Int → List Int} {a : Int → Int} (hS : zSt M E P w a B) (hB : B + 3 ≤ 600) (hn : n ≤ 4 ∧ (n : Int) ≤ P) (h : ∀ N T, zfr zwF M N → N 251 = M 251 → zTm N T n → (∀ i, 0 ≤ i → i < (n : Int) → T i = (0, E (P - n + i))) → Q (9, 0) N) : Y G (d + 1) mX12_findTerms 0 [(2, 234), (0, -1), (0, (n : Int)), (0, 0), (0, 0), (9, 0), (9, 0), (9, 0), (9, 0), (9, 0), (9, 0), (9, 0), (9, 0)] [] M Q := by
  refine s_findTerms (ap := false) hG (Or.inl ⟨rfl, rfl⟩) (zSt_pk hS (by omega) (by omega)) (fun i i0 i1 => Or.inl (zsh0 (by omega))) (by rw [znt_f, zLs_len]; omega) (fun N T m hN r hT hL => ?_)
  rw [znt_f] at hL
  have em : m = n := by
    have := congrArg List.length hL
    rw [zLs_len, zLs_len] at this
    exact this
  subst em
  refine h N T (zfr_sub hN (by decide)) r hT (fun i i0 i1 => ?_)
  have gen : ∀ (T T' : Int → znT) (n : Nat), zLs T n = zLs T' n → ∀ i, 0 ≤ i → i < (n : Int) → T i = T' i := fun T T' n => by
    induction n with
    | zero => intro _ i i0 i1; exact absurd i1 (by omega)
    | succ n ih =>
      intro hh i i0 i1
      have hh' : zLs T n ++ [T n] = zLs T' n ++ [T' n] := hh
      obtain ⟨x, y⟩ := List.append_inj hh' (by rw [zLs_len, zLs_len])
      by_cases c : i = n
      · rw [c]; injection y
      · exact ih x i i0 (by omega)
  rw [gen _ _ m hL i i0 i1]
  unfold zag
  rw [zsh0 (by omega)]
theorem zfrm_w {N : zM} (h : zfr [(253, 0, 1000000)] M N) : zfr zwF M N := zfr_sub h (by decide)
theorem s_sayWord (hG : zP G) {k0 eq P B m v : Int} {n w : Nat} {E : Int → List Int} {a : Int → Int} (hk : 4 ≤ k0 ∧ k0 ≤ 9) (he : 0 ≤ eq ∧ eq ≤ 255) (hS : zSt M E P w a B) (hB : B + 3 ≤ 600) (hn : (n : Int) = (if k0 < 6 then 1 else 2) ∧ (n : Int) ≤ P) (hm : m = zsuN (fun j => a (P - n + j)) n)
    (h : ∀ N, zfr zmF M N → zSt N (zupE E (P - n) (znsn eq k0 v (fun j => E (P - n + j)))) (P - n + 1) (w + 1) (zup a (P - n) m) (B + 3) → Q (9, 0) N) : Y G (d + 3) mX12_sayWord 0 [(2, 234), (0, k0), (0, (n : Int)), (0, eq), (9, 0), (9, 0), (9, 0), (9, 0)] [] M Q := by
  have b4 := zbt_e eq 4 he (by decide)
  have b5 := zbt_e eq 5 he (by decide)
  have b7 := zbt_e eq 7 he (by decide)
  have pn : zpn k0 v = n := by
    unfold zpn
    rw [if_neg (by omega), if_neg (by omega), if_neg (by omega), hn.1]
    by_cases c : k0 < 6
    · rw [if_pos c, if_pos c]
    · rw [if_neg c, if_neg c, if_pos (by omega)]
  have n12 : n = 1 ∨ n = 2 := by have := hn.1; by_cases c : k0 < 6; (rw [if_pos c] at this; omega); (rw [if_neg c] at this; omega)
  have wk : ∀ j, 0 ≤ j → j < zpn k0 v → znk (w + 1) (E (P - n + j)) (a (P - n + j)) := fun j j0 j1 => (hS.2.2.2.2 (P - n + j) (by omega) (by omega)).2.2
  have hkS := znsn_k (eq := eq) (s := k0) (v := v) (c := fun j => E (P - n + j)) (f := fun j => a (P - n + j)) (n := w) (m := m) (fun e => absurd e (by omega)) (by omega) wk (fun e => absurd e (by omega)) (by rw [if_neg (by omega), pn, Int.toNat_natCast, hm])
  have m1 := znk_1 _ _ _ hkS
  have lenS := znsn_len (eq := eq) (s := k0) (v := v) (c := fun j => E (P - n + j)) (f := fun j => a (P - n + j)) (n := w) (by omega) wk
  have lm : zsuN (fun j => ((E (P - n + j)).length : Int) + 1) n = M 252 P - M 252 (P - n) + n := by
    have := zag_lm (x3 := 0) hS hn.2 n (by omega)
    rw [show P - (n : Int) + n = P by omega] at this
    rw [← this]
    have g : ∀ i : Nat, zsuN (fun j => ((E (P - n + j)).length : Int) + 1) i = zlm (zLs (zag E 0 P n) i) := fun i => by
      induction i with
      | zero => rfl
      | succ i ih =>
        show zsuN _ i + (((E (P - n + i)).length : Int) + 1) = (zlm (zLs (zag E 0 P n) i ++ [zag E 0 P n i]) : Int)
        rw [zlm_app, ih]
        show _ = ((zlm (zLs (zag E 0 P n) i) + ((E (P - n + i)).length + 1 + 0) : Nat) : Int)
        omega
    exact g n
  rw [pn, Int.toNat_natCast, lm] at lenS
  have p0 := zSt_0 hS (i := P - n) (by omega) (by omega)
  have p1 := hS.2.2.2.1
  have p2 := hS.2.1
  have fin : ∀ (N : zM) (r : List Int) (x4 x5 x6 : Int), zfr zwF M N → r = znsn eq k0 v (fun j => E (P - n + j)) → zat (N 253) 0 r → Y G (d + 2) mX12_put 0 [(2, 234), (0, (n : Int)), (0, (r.length : Int)), (9, 0), (9, 0)] [] N (fun r' M' => Y G (d + 2 + 1) mX12_sayWord 216 [(2, 234), (0, k0), (0, (n : Int)), (0, eq), (0, x4), (0, x5), (0, x6), (0, (r.length : Int))] (zpush r' []) M' Q) := fun N r x4 x5 x6 hN hr hz => by
    subst hr
    have hS' := zSt_c hN (by omega) hS
    have e1 : N 252 P = M 252 P := hN 252 P (by unfold zhw zhit; simp; omega)
    have e2 : N 252 (P - n) = M 252 (P - n) := hN 252 (P - n) (by unfold zhw zhit; simp; omega)
    exact s_mput hG hS' (by omega) hB hz (by rw [e1, e2]; omega) hkS (fun N1 hN1 hs1 => bX12_sayWord_216 hG (h N1 (zfr_trans (zfr_sub hN (by decide)) hN1) hs1))
  refine bX12_sayWord_0 hG (s_ft0 hG hS hB (by omega) (fun N T hN r hT hE => ?_))
  have t0 := hE 0 (by omega) (by omega)
  rw [Int.add_zero] at t0
  have znh1 : ∀ ps : List znT, znh k0 0 ps = k0 :: ps.flatMap (fun p => p.2) := fun ps => by unfold znh; rw [if_neg (by omega), if_neg (by omega), if_neg (by omega), if_neg (by omega)]
  -- all terms, behind the word
  have lay1 : ∀ (N : zM) (T : Int → znT) (x4 x6 : Int), zfr zwF M N → zTm N T n → znsn eq k0 v (fun j => E (P - n + j)) = k0 :: (zLs T n).flatMap (fun p => p.2) → Y G (d + 2) mX12_lay 0 [(2, 234), (0, 1), (0, 0), (9, 0), (9, 0)] [] (zset N 253 0 k0) (fun r M' => Y G (d + 2 + 1) mX12_sayWord 188 [(2, 234), (0, k0), (0, (n : Int)), (0, eq), (0, x4), (0, 0), (0, x6), (9, 0)] (zpush r []) M' Q) := fun N T x4 x6 hN hT hr => by
    have hN1 : zfr zwF M (zset N 253 0 k0) := zfr_set hN (zhit_at 0 rfl ⟨by decide, by decide⟩)
    have hT1 : zTm (zset N 253 0 k0) T n := zTm_c (zfr_set zfr_rfl (zhit_at 0 rfl ⟨by decide, by decide⟩)) hT
    have lr := congrArg List.length hr
    rw [List.length_cons] at lr
    rcases n12 with e | e
    · subst e
      have fm : (zLs T 1).flatMap (fun p => p.2) = (T 0).2 := List.append_nil _
      rw [fm] at lr hr
      refine s_lay (wr := [k0]) hG hT1 (by omega) ⟨zset_same, trivial⟩ (by rw [List.length_singleton]; omega) (fun N2 hN2 hT2 hz => bX12_sayWord_188 hG ⟨fun _ => fin N2 _ _ _ _ (zfr_trans hN1 (zfrm_w hN2)) hr.symm hz, fun z => absurd z (by decide)⟩)
    · subst e
      have fm : (zLs T 2).flatMap (fun p => p.2) = (T 0).2 ++ (T 1).2 := by
        show (T 0).2 ++ ((T 1).2 ++ []) = _
        rw [List.append_nil]
      rw [fm] at lr hr
      rw [List.length_append] at lr
      refine s_lay (wr := [k0]) hG hT1 (by omega) ⟨zset_same, trivial⟩ (by rw [List.length_singleton]; omega) (fun N2 hN2 hT2 hz => bX12_sayWord_188 hG ⟨fun z => absurd rfl z, fun _ => ⟨fun z => absurd rfl z, fun _ => ?_⟩⟩)
      refine s_lay hG hT2 (by omega) hz (by rw [List.length_append, List.length_singleton]; omega) (fun N3 hN3 hT3 hz3 => bX12_sayWord_207 hG (fin N3 _ _ _ _ (zfr_trans hN1 (zfr_trans (zfrm_w hN2) (zfrm_w hN3))) ?_ hz3))
      rw [hr]; exact List.append_assoc [k0] _ _
  have same : zLs T n = zLs (fun i => (0, E (P - n + i))) n := zLs_c n hE
  by_cases c6 : k0 < 6
  · -- one part
    have e1 : n = 1 := by have := hn.1; rw [if_pos c6] at this; omega
    have ez : znsn eq k0 v (fun j => E (P - n + j)) = k0 :: (zLs T n).flatMap (fun p => p.2) := by
      unfold znsn
      rw [if_neg (by omega), if_neg (by omega), if_pos c6, znh1, same, e1]; rfl
    exact bX12_sayWord_8 hG ⟨fun z => absurd z (by omega), fun _ => ⟨fun _ => ⟨fun _ => lay1 N T _ _ hN hT ez, fun z => absurd z (by omega)⟩, fun z => absurd z (by omega)⟩⟩
  · have e2 : n = 2 := by have := hn.1; rw [if_neg c6] at this; omega
    have t1 := hE 1 (by omega) (by omega)
    have same2 : zLs T n = [(0, E (P - n)), (0, E (P - n + 1))] := by
      rw [same, e2]
      show [((0 : Int), E (P - (2 : Nat) + 0)), (0, E (P - (2 : Nat) + 1))] = _
      rw [Int.add_zero]
    have c00 : (fun j => E (P - n + j)) 0 = E (P - n) := by show E (P - n + 0) = _; rw [Int.add_zero]
    -- two in order
    have ord : ∀ (x4 : Int), (znsn eq k0 v (fun j => E (P - n + j)) = znh k0 0 (znso [(0, E (P - n)), (0, E (P - n + 1))])) → Y G (d + 2) mX12_isAhead 0 [(2, 234), (0, 1), (0, 0)] [] N (fun r M' => Y G (d + 2 + 1) mX12_sayWord 157 [(2, 234), (0, k0), (0, (n : Int)), (0, eq), (0, x4), (0, 0), (0, 1), (9, 0)] (zpush r []) M' Q) := fun x4 hz => by
      rw [znso_2] at hz
      refine s_isAhead hG hT (by omega) (by omega) (fun q => ?_) (fun q => ?_)
      · rw [t0, t1] at q
        unfold znle at q
        rw [if_neg q] at hz
        refine bX12_sayWord_157 hG ⟨fun z => absurd z (by decide), fun _ => ?_⟩
        refine s_exchange hG hT (by omega) (by omega) (by decide) (fun N1 hN1 r1 hT1 => bX12_sayWord_166 hG ⟨fun _ => ?_, fun z => absurd rfl z⟩)
        refine lay1 N1 _ _ _ (zfr_trans hN (zfr_sub hN1 (by decide))) hT1 ?_
        rw [hz, znh1, e2]
        have s0 : zsw T 0 1 0 = T 1 := by unfold zsw; rw [zupT_ne (by decide), zupT_at]
        have s1 : zsw T 0 1 1 = T 0 := by unfold zsw; rw [zupT_at]
        have : zLs (zsw T 0 1) 2 = [T 1, T 0] := by
          show [zsw T 0 1 0, zsw T 0 1 1] = _
          rw [s0, s1]
        rw [this, t0, t1, e2]
      · rw [t0, t1] at q
        unfold znle at q
        rw [if_pos q] at hz
        refine bX12_sayWord_157 hG ⟨fun _ => ⟨fun _ => ?_, fun z => absurd rfl z⟩, fun z => absurd rfl z⟩
        refine lay1 N T _ _ hN hT ?_
        rw [hz, znh1, same2]
    by_cases c8 : k0 < 8
    · have ez : znsn eq k0 v (fun j => E (P - n + j)) = znh k0 0 (if zbt eq 4 then znso [(0, E (P - n)), (0, E (P - n + 1))] else [(0, E (P - n)), (0, E (P - n + 1))]) := by
        unfold znsn
        rw [if_neg (by omega), if_neg (by omega), if_neg c6, if_pos c8, c00]
      refine bX12_sayWord_8 hG ⟨fun z => absurd z (by omega), fun _ => ⟨fun _ => ⟨fun z => absurd (by omega) z, fun _ => ⟨fun q => ord _ (by rw [ez, if_pos (b4.mp q)]), fun q => lay1 N T _ _ hN hT (by rw [ez, if_neg (fun x => q (b4.mpr x)), znh1, same2])⟩⟩, fun z => absurd z (by omega)⟩⟩
    · have ez : znsn eq k0 v (fun j => E (P - n + j)) = znM eq k0 (E (P - n)) (E (P - n + 1)) := by
        unfold znsn
        rw [if_neg (by omega), if_neg (by omega), if_neg c6, if_neg c8, if_pos (by omega), c00]
      -- nothing worked out
      have al : ¬ (zbt eq 7 = true ∧ (E (P - n)).head? = some 0 ∧ (E (P - n + 1)).head? = some 0) → zbt eq 5 = true → Y G (d + 2) mX12_areAlike 0 [(2, 234), (0, 0), (0, 1)] [] N (fun r M' => Y G (d + 2 + 1) mX12_sayWord 107 [(2, 234), (0, k0), (0, (n : Int)), (0, eq), (0, 1), (9, 0), (9, 0), (9, 0)] (zpush r []) M' Q) := fun n7 q5 => by
        have ez2 : znsn eq k0 v (fun j => E (P - n + j)) = if E (P - n) = E (P - n + 1) then E (P - n) else znh k0 0 (znso [(0, E (P - n)), (0, E (P - n + 1))]) := by
          rw [ez]; unfold znM; rw [if_neg n7, if_pos q5]
        refine s_mareAlike hG hT (by omega) (by omega) (fun q => ?_) (fun q => ?_)
        · rw [t0, t1] at q
          have q : E (P - n) = E (P - n + 1) := q
          rw [if_pos q] at ez2
          refine bX12_sayWord_107 hG ⟨fun z => absurd z (by decide), fun _ => ⟨fun z => absurd (by omega) z, fun _ => ⟨fun z => absurd z (by decide), fun _ => ⟨fun _ => ?_, fun z => absurd (b5.mpr q5) z⟩⟩⟩⟩
          refine s_isAhead hG hT (by omega) (by omega) (fun w => absurd (by rw [t0, t1, q]; exact znle_rf _) w) (fun w => bX12_sayWord_157 hG ⟨fun _ => ⟨fun z => absurd z (by decide), fun _ => ?_⟩, fun z => absurd rfl z⟩)
          have hN1 : zfr zwF M (zset N 253 0 k0) := zfr_set hN (zhit_at 0 rfl ⟨by decide, by decide⟩)
          have hT1 : zTm (zset N 253 0 k0) T n := zTm_c (zfr_set zfr_rfl (zhit_at 0 rfl ⟨by decide, by decide⟩)) hT
          have lr := congrArg List.length ez2
          refine s_lay (wr := []) hG hT1 (by omega) trivial (by rw [t0]; show 0 + (E (P - n)).length ≤ 600; omega) (fun N2 hN2 hT2 hz => bX12_sayWord_188 hG ⟨fun z => absurd (by omega) z, fun _ => ⟨fun _ => ?_, fun z => absurd z (by decide)⟩⟩)
          refine fin N2 _ _ _ _ (zfr_trans hN1 (zfrm_w hN2)) ?_ hz
          rw [ez2, t0]; rfl
        · rw [t0, t1] at q
          have q : ¬ E (P - n) = E (P - n + 1) := q
          rw [if_neg q] at ez2
          exact bX12_sayWord_107 hG ⟨fun _ => ⟨fun z => absurd (by omega) z, fun _ => ⟨fun z => absurd z (by decide), fun _ => ⟨fun _ => ord _ ez2, fun z => absurd (b5.mpr q5) z⟩⟩⟩, fun z => absurd rfl z⟩
      have pl : ¬ (zbt eq 7 = true ∧ (E (P - n)).head? = some 0 ∧ (E (P - n + 1)).head? = some 0) → ¬ zbt eq 5 = true → znsn eq k0 v (fun j => E (P - n + j)) = k0 :: (zLs T n).flatMap (fun p => p.2) := fun n7 q5 => by
        rw [ez]; unfold znM; rw [if_neg n7, if_neg q5, znh1, same2]
      have nm : Y G (d + 2) mX12_areNumbers 0 [(2, 234), (9, 0)] [] N (fun r M' => Y G (d + 2 + 1) mX12_sayWord 45 [(2, 234), (0, k0), (0, (n : Int)), (0, eq), (0, 1), (9, 0), (9, 0), (9, 0)] (zpush r []) M' Q) ∨ ¬ zbit eq 7 := by
        by_cases q7 : zbit eq 7
        · refine Or.inl ?_
          have wt : zwt w (zLs T n) := by
            rw [same2]
            intro t ht
            rcases List.mem_cons.mp ht with q | q
            · rw [q]
              have := wk 0 (by omega) (by omega)
              rw [Int.add_zero] at this
              exact ⟨_, this⟩
            · rw [List.mem_singleton.mp q]; exact ⟨_, wk 1 (by omega) (by omega)⟩
          refine s_areNumbers hG hT wt (fun hu => ?_) (fun hu => ?_)
          · have u0 := hu (T 0) ((zLs_mem n).mpr ⟨0, by omega, by omega, rfl⟩)
            have u1 := hu (T 1) ((zLs_mem n).mpr ⟨1, by omega, by omega, rfl⟩)
            have i0 : znE1 N 0 (T 0) := hT.2.2 0 (by omega) (by omega)
            have i1 : znE1 N 1 (T 1) := hT.2.2 1 (by omega) (by omega)
            obtain ⟨v1, v2, v3, v4⟩ := znE1_v (wt _ ((zLs_mem n).mpr ⟨0, by omega, by omega, rfl⟩)) i0 u0
            obtain ⟨w1, w2, w3, w4⟩ := znE1_v (wt _ ((zLs_mem n).mpr ⟨1, by omega, by omega, rfl⟩)) i1 u1
            have f0 := i0.2.2.1
            have f1 := i1.2.2.1
            have uu0 : (E (P - n)).head? = some 0 := by have := u0; rw [t0] at this; exact this
            have uu1 : (E (P - n + 1)).head? = some 0 := by have := u1; rw [t1] at this; exact this
            have ez2 : znsn eq k0 v (fun j => E (P - n + j)) = [0, if k0 = 8 then max (znv (E (P - n))) (znv (E (P - n + 1))) else min (znv (E (P - n))) (znv (E (P - n + 1)))] := by
              rw [ez]; unfold znM; rw [if_pos ⟨b7.mp q7, uu0, uu1⟩]
            rw [ez2] at h
            refine bX12_sayWord_45 hG ⟨fun z => absurd z (by decide), fun _ => ?_⟩
            rw [v3, w3]
            rw [t0] at v2 ⊢
            rw [t1] at w2 ⊢
            refine ⟨by omega, by omega, by omega, by omega, ?_⟩
            have last : ∀ y, (y = if k0 = 8 then max (znv (E (P - n))) (znv (E (P - n + 1))) else min (znv (E (P - n))) (znv (E (P - n + 1)))) → Y G (d + 2 + 1) mX12_sayWord 83 [(2, 234), (0, k0), (0, (n : Int)), (0, eq), (0, 1), (9, 0), (9, 0), (9, 0)] [(1, y), (0, (n : Int)), (2, 234)] N Q := fun y hy => by
              have yb : zb6 y := by
                rw [hy]
                have v2' : zb6 (znv (E (P - n))) := v2
                have w2' : zb6 (znv (E (P - n + 1))) := w2
                by_cases q : k0 = 8
                · rw [if_pos q]; unfold zb6 at *; omega
                · rw [if_neg q]; unfold zb6 at *; omega
              refine bX12_sayWord_83 hG ?_
              rw [zw_of (by unfold zb6 at yb; show -2147483648 ≤ _ ∧ _ ≤ 2147483647; omega)]
              rw [← hy] at h
              exact s_putNumber hG (zSt_c hN (by omega) hS) (by omega) hB m1 yb (fun N1 hN1 hs1 => bX12_sayWord_87 hG (h N1 (zfr_trans (zfr_sub hN (by decide)) hN1) hs1))
            refine bX12_ofTwo_0 hG ⟨fun z => absurd z (by omega), fun z => absurd z (by omega), fun z => ⟨fun q => last _ ?_, fun q => last _ ?_⟩, fun z => ⟨fun q => last _ ?_, fun q => last _ ?_⟩⟩
            · rw [if_pos z]; rw [zlcmp_le] at q; show znv (E (P - n + 1)) = _; have q' : znv (E (P - n)) ≤ znv (E (P - n + 1)) := q; omega
            · rw [if_pos z]; rw [zlcmp_gt] at q; show znv (E (P - n)) = _; have q' : znv (E (P - n + 1)) < znv (E (P - n)) := q; omega
            · rw [if_neg (by omega)]; rw [zlcmp_ge] at q; show znv (E (P - n + 1)) = _; have q' : znv (E (P - n + 1)) ≤ znv (E (P - n)) := q; omega
            · rw [if_neg (by omega)]; rw [zlcmp_lt] at q; show znv (E (P - n)) = _; have q' : znv (E (P - n)) < znv (E (P - n + 1)) := q; omega
          · have n7 : ¬ (zbt eq 7 = true ∧ (E (P - n)).head? = some 0 ∧ (E (P - n + 1)).head? = some 0) := fun q => hu (fun x hx => by
              rw [same2] at hx
              rcases List.mem_cons.mp hx with w | w
              · rw [w]; exact q.2.1
              · rw [List.mem_singleton.mp w]; exact q.2.2)
            exact bX12_sayWord_45 hG ⟨fun _ => ⟨fun z => absurd z (by decide), fun _ => ⟨fun q => al n7 (b5.mp q), fun q => ⟨fun z => absurd (by omega) z, fun _ => ⟨fun z => absurd z (by decide), fun _ => ⟨fun z => absurd z q, fun _ => lay1 N T _ _ hN hT (pl n7 (fun x => q (b5.mpr x)))⟩⟩⟩⟩⟩, fun z => absurd rfl z⟩
        · exact Or.inr q7
      have n7' : ¬ zbit eq 7 → ¬ (zbt eq 7 = true ∧ (E (P - n)).head? = some 0 ∧ (E (P - n + 1)).head? = some 0) := fun q x => q (b7.mpr x.1)
      have nm1 : zbit eq 7 → _ := fun q => nm.resolve_right (fun x => x q)
      refine bX12_sayWord_8 hG ⟨fun _ => ⟨nm1, fun q7 => ⟨fun q => al (n7' q7) (b5.mp q), fun q => ⟨fun z => absurd (by omega) z, fun _ => ⟨fun z => absurd z q, fun _ => lay1 N T _ _ hN hT (pl (n7' q7) (fun x => q (b5.mpr x)))⟩⟩⟩⟩, fun _ => ⟨fun z => absurd (by omega) z, fun _ => ⟨nm1, fun q7 => ⟨fun q => al (n7' q7) (b5.mp q), fun q => ⟨fun z => absurd (by omega) z, fun _ => ⟨fun z => absurd z q, fun _ => lay1 N T _ _ hN hT (pl (n7' q7) (fun x => q (b5.mpr x)))⟩⟩⟩⟩⟩⟩
end Y9
