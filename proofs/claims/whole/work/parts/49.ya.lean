section YA
variable {G : zG} {d : Nat} {M : zM} {Q : zV → zM → Prop}
theorem s_sayIf (hG : zP G) {eq P B m v : Int} {w : Nat} {E : Int → List Int} {a : Int → Int} (hv : 0 ≤ v ∧ v ≤ 5) (he : 0 ≤ eq ∧ eq ≤ 255) (hS : zSt M E P w a B) (hB : B + 3 ≤ 600) (hn : 4 ≤ P) (hm : m = zsuN (fun j => a (P - 4 + j)) 4)
    (h : ∀ N, zfr zmF M N → zSt N (zupE E (P - 4) (znsn eq 10 v (fun j => E (P - 4 + j)))) (P - 4 + 1) (w + 1) (zup a (P - 4) m) (B + 3) → Q (9, 0) N) : Y G (d + 3) mX12_sayIf 0 [(2, 234), (0, v), (0, eq), (9, 0), (9, 0), (9, 0)] [] M Q := by
  have b6 := zbt_e eq 6 he (by decide)
  have pn : zpn 10 v = 4 := rfl
  have wk : ∀ j, 0 ≤ j → j < zpn 10 v → znk (w + 1) (E (P - 4 + j)) (a (P - 4 + j)) := fun j j0 j1 => (hS.2.2.2.2 (P - 4 + j) (by omega) (by omega)).2.2
  have hkS := znsn_k (eq := eq) (s := 10) (v := v) (c := fun j => E (P - 4 + j)) (f := fun j => a (P - 4 + j)) (n := w) (m := m) (fun _ => by unfold zb6; omega) (by omega) wk (fun e => absurd e (by omega)) (by rw [if_neg (by omega), pn, hm]; rfl)
  have lenS := znsn_len (eq := eq) (s := 10) (v := v) (c := fun j => E (P - 4 + j)) (f := fun j => a (P - 4 + j)) (n := w) (by omega) wk
  have lm : zsuN (fun j => ((E (P - 4 + j)).length : Int) + 1) 4 = M 252 P - M 252 (P - 4) + 4 := by
    have := zag_lm (x3 := 0) hS (n := 4) (by omega) 4 (by omega)
    rw [show P - ((4 : Nat) : Int) + ((4 : Nat) : Int) = P by omega] at this
    have e4 : zlm (zLs (zag E 0 P ((4 : Nat) : Int)) 4) = (E (P - 4 + 0)).length + 1 + ((E (P - 4 + 1)).length + 1 + ((E (P - 4 + 2)).length + 1 + ((E (P - 4 + 3)).length + 1 + 0))) := rfl
    rw [e4] at this
    show 0 + (((E (P - 4 + 0)).length : Int) + 1) + (((E (P - 4 + 1)).length : Int) + 1) + (((E (P - 4 + 2)).length : Int) + 1) + (((E (P - 4 + 3)).length : Int) + 1) = _
    have t : M 252 (P - ((4 : Nat) : Int)) = M 252 (P - 4) := rfl
    omega
  have pn4 : (zpn 10 v).toNat = 4 := rfl
  rw [pn4, lm] at lenS
  have p0 := zSt_0 hS (i := P - 4) (by omega) (by omega)
  have p1 := hS.2.2.2.1
  have p2 := hS.2.1
  have fin : ∀ (N : zM) (r : List Int) (Q' : zV → zM → Prop), zfr zwF M N → r = znsn eq 10 v (fun j => E (P - 4 + j)) → zat (N 253) 0 r → (∀ N', Q (9, 0) N' → Q' (9, 0) N') → Y G (d + 2) mX12_put 0 [(2, 234), (0, 4), (0, (r.length : Int)), (9, 0), (9, 0)] [] N Q' := fun N r Q' hN hr hz hQ => by
    subst hr
    have hS' := zSt_c hN (by omega) hS
    have e1 : N 252 P = M 252 P := hN 252 P (by unfold zhw zhit; simp; omega)
    have e2 : N 252 (P - 4) = M 252 (P - 4) := hN 252 (P - 4) (by unfold zhw zhit; simp; omega)
    exact s_mput hG hS' (by omega) hB hz (by rw [e1, e2]; omega) hkS (fun N1 hN1 hs1 => hQ N1 (h N1 (zfr_trans (zfr_sub hN (by decide)) hN1) hs1))
  have ez : znsn eq 10 v (fun j => E (P - 4 + j)) = znI eq v (E (P - 4 + 0)) (E (P - 4 + 1)) (E (P - 4 + 2)) (E (P - 4 + 3)) := by
    unfold znsn
    rw [if_neg (by omega), if_neg (by omega), if_neg (by omega), if_neg (by omega), if_neg (by omega)]
  refine bX12_sayIf_0 hG (s_ft0 (n := 4) hG hS hB (by omega) (fun N T hN r hT hE => ?_))
  have t0 := hE 0 (by omega) (by omega)
  have t1 := hE 1 (by omega) (by omega)
  have t2 := hE 2 (by omega) (by omega)
  have t3 := hE 3 (by omega) (by omega)
  -- all four, behind the word
  have all : ∀ (N : zM) (T : Int → znT) (how : Int), zfr zwF M N → zTm N T 4 → znsn eq 10 v (fun j => E (P - 4 + j)) = znh 10 how [T 0, T 1, T 2, T 3] → Y G (d + 2 + 1) mX12_sayIf 90 [(2, 234), (0, v), (0, eq), (0, how), (0, 2), (0, 0)] [] (zset (zset N 253 0 10) 253 1 how) Q := fun N T how hN hT hz => by
    have hN1 : zfr zwF M (zset (zset N 253 0 10) 253 1 how) := zfr_set (zfr_set hN (zhit_at 0 rfl ⟨by decide, by decide⟩)) (zhit_at 0 rfl ⟨by decide, by decide⟩)
    have hT1 : zTm (zset (zset N 253 0 10) 253 1 how) T 4 := zTm_c (zfr_set (zfr_set zfr_rfl (zhit_at 0 rfl ⟨by decide, by decide⟩)) (zhit_at 0 rfl ⟨by decide, by decide⟩)) hT
    have eh : znh 10 how [T 0, T 1, T 2, T 3] = [10, how] ++ (T 0).2 ++ (T 1).2 ++ (T 2).2 ++ (T 3).2 := by
      show 10 :: how :: ((T 0).2 ++ ((T 1).2 ++ ((T 2).2 ++ ((T 3).2 ++ [])))) = _
      rw [List.append_nil, List.append_assoc, List.append_assoc, List.append_assoc]; rfl
    rw [eh] at hz
    have lr := congrArg List.length hz
    rw [List.length_append, List.length_append, List.length_append, List.length_append] at lr
    have l2 : [10, how].length = 2 := rfl
    refine bX12_sayIf_90 hG ⟨fun z => absurd z (by decide), fun _ => ?_⟩
    refine s_lay (wr := [10, how]) hG hT1 (by omega) ⟨by rw [zset_ne (fun q => by have := q.2; omega)]; exact zset_same, zset_same, trivial⟩ (by omega) (fun N2 hN2 hT2 hz2 => bX12_sayIf_104 hG ⟨by omega, bX12_sayIf_90 hG ⟨fun z => absurd z (by decide), fun _ => ?_⟩⟩)
    refine s_lay hG hT2 (by omega) hz2 (by show _ + (T 1).2.length ≤ 600; rw [List.length_append]; omega) (fun N3 hN3 hT3 hz3 => bX12_sayIf_104 hG ⟨by omega, bX12_sayIf_90 hG ⟨fun z => absurd z (by decide), fun _ => ?_⟩⟩)
    refine s_lay hG hT3 (by omega) hz3 (by show ([10, how] ++ (T 0).2 ++ (T 1).2).length + (T 2).2.length ≤ 600; rw [List.length_append, List.length_append]; omega) (fun N4 hN4 hT4 hz4 => bX12_sayIf_104 hG ⟨by omega, bX12_sayIf_90 hG ⟨fun z => absurd z (by decide), fun _ => ?_⟩⟩)
    refine s_lay hG hT4 (by omega) hz4 (by show ([10, how] ++ (T 0).2 ++ (T 1).2 ++ (T 2).2).length + (T 3).2.length ≤ 600; rw [List.length_append, List.length_append, List.length_append]; omega) (fun N5 hN5 hT5 hz5 => bX12_sayIf_104 hG ⟨by omega, bX12_sayIf_90 hG ⟨fun _ => ?_, fun z => absurd z (by decide)⟩⟩)
    exact fin N5 _ _ (zfr_trans hN1 (zfrm_w (zfr_trans hN2 (zfr_trans hN3 (zfr_trans hN4 hN5))))) hz.symm hz5 (fun N' q => bX12_sayIf_119 hG q)
  have eT : [T 0, T 1, T 2, T 3] = [((0 : Int), E (P - 4 + 0)), (0, E (P - 4 + 1)), (0, E (P - 4 + 2)), (0, E (P - 4 + 3))] := by rw [t0, t1, t2, t3]; rfl
  have turn : zbt eq 6 = true → ¬ E (P - 4 + 2) = E (P - 4 + 3) → (v = 2 ∨ v = 3) → Y G (d + 2) mX12_exchange 0 [(2, 234), (0, 0), (0, 1), (9, 0), (9, 0), (9, 0)] [] N (fun r M' => Y G (d + 2 + 1) mX12_sayIf 69 [(2, 234), (0, v), (0, eq), (0, v - 2), (9, 0), (9, 0)] (zpush r []) M' Q) := fun q6 ne vv => by
    refine s_exchange hG hT (by omega) (by omega) (by decide) (fun N1 hN1 r1 hT1 => bX12_sayIf_69 hG (all N1 _ _ (zfr_trans hN (zfr_sub hN1 (by decide))) hT1 ?_))
    have s0 : zsw T 0 1 0 = T 1 := by unfold zsw; rw [zupT_ne (by decide), zupT_at]
    have s1 : zsw T 0 1 1 = T 0 := by unfold zsw; rw [zupT_at]
    have s2 : zsw T 0 1 2 = T 2 := by unfold zsw; rw [zupT_ne (by decide), zupT_ne (by decide)]
    have s3 : zsw T 0 1 3 = T 3 := by unfold zsw; rw [zupT_ne (by decide), zupT_ne (by decide)]
    rw [ez, s0, s1, s2, s3, t0, t1, t2, t3]
    unfold znI
    rw [if_pos q6, if_neg ne, if_pos vv]; rfl
  refine bX12_sayIf_8 hG ⟨fun q => ?_, fun q => ⟨fun z => absurd z q, fun _ => all N T v hN hT ?_⟩⟩
  · have q6 := b6.mp q
    refine s_mareAlike hG hT (by omega) (by omega) (fun al => ?_) (fun al => ?_)
    · rw [t2, t3] at al
      have al : E (P - 4 + 2) = E (P - 4 + 3) := al
      have ez2 : znsn eq 10 v (fun j => E (P - 4 + j)) = E (P - 4 + 2) := by rw [ez]; unfold znI; rw [if_pos q6, if_pos al]
      have lr := congrArg List.length ez2
      refine bX12_sayIf_25 hG ⟨fun z => absurd z (by decide), fun _ => ?_⟩
      refine s_lay (wr := []) hG hT (by omega) trivial (by rw [t2]; show 0 + (E (P - 4 + 2)).length ≤ 600; omega) (fun N2 hN2 hT2 hz2 => bX12_sayIf_36 hG ?_)
      exact fin N2 _ _ (zfr_trans hN (zfrm_w hN2)) (by rw [ez2, t2]; rfl) hz2 (fun N' q => bX12_sayIf_39 hG q)
    · rw [t2, t3] at al
      have al : ¬ E (P - 4 + 2) = E (P - 4 + 3) := al
      refine bX12_sayIf_25 hG ⟨fun _ => ⟨fun _ => ⟨fun v2 => ⟨by omega, turn q6 al (Or.inl v2)⟩, fun v2 => ⟨fun v3 => all N T v hN hT ?_, fun v3 => ⟨by omega, turn q6 al (Or.inr v3)⟩⟩⟩, fun z => absurd q z⟩, fun z => absurd rfl z⟩
      rw [eT, ez]; unfold znI
      rw [if_pos q6, if_neg al, if_neg (fun z => by omega)]
  · rw [eT, ez]; unfold znI
    rw [if_neg (fun x => q (b6.mpr x))]
theorem zand1_01 (x : Int) : zand x 1 = 0 ∨ zand x 1 = 1 := by
  have e := zb_nI (Int32.ofInt x)
  have h : (Int32.ofInt x).toBitVec.toNat &&& 1 ≤ 1 := Nat.and_le_right
  have e2 : zand x 1 = (((Int32.ofInt x).toBitVec.toNat &&& 1 : Nat) : Int) := by
    show (Int32.ofInt x &&& nI 1).toInt = _
    have e3 : Int32.ofInt x &&& nI 1 = nI ((Int32.ofInt x).toBitVec.toNat &&& 1) := by
      rw [← nx_and, ← e]
    rw [e3, nI_toInt (by omega)]
  rw [e2]
  omega
/-- a question is said -/
theorem s_say14 (hG : zP G) {q eq len : Int} {st v : Int → Int} (hq : 0 ≤ q ∧ q < 12) (he : 0 ≤ eq ∧ eq ≤ 255) (hl : M 246 q = len) (hlen : 1 ≤ len ∧ len ≤ 120) (hst : ∀ k, M 247 (240 * q + 2 * k) = st k) (hv : ∀ k, M 247 (240 * q + 2 * k + 1) = v k) (hw : zwf st v len) (hc : zlc st len.toNat ≤ 16)
    (h : ∀ N, zfr zmF M N → zat (N 251) 0 (znF eq st v len.toNat (len - 1)) → N 252 1 = ((znF eq st v len.toNat (len - 1)).length : Int) → Q (0, N 252 1) N) : ∀ (r k : Nat) (N : zM), (k : Int) + r = len → zfr zmF M N → zSt N (fun m => znF eq st v k ((zsp st v k).2 m)) (zsp st v k).1 k (fun m => zlv st v k ((zsp st v k).2 m)) (3 * k) → Y G (d + 4) mX12_say 14 [(2, 234), (0, q), (0, eq), (0, (k : Int)), (9, 0), (9, 0)] [] N Q
  | 0, k, N, hk, hN, hS => by
    have e46 : N 246 q = len := by rw [hN 246 q (by unfold zhw zhit; simp; omega)]; exact hl
    have ek : k = len.toNat := by omega
    have one := hw.2
    rw [← ek] at one h
    have eP : (zsp st v k).1 = 1 := one
    -- the last one waits alone
    have k1 : k = (k - 1) + 1 := by omega
    have e2 : (zsp st v k).2 0 = len - 1 := by
      have q1 := (hw.1 (k - 1) (by omega)).2.1
      have a1 : (zsp st v (k - 1 + 1)).1 = (zsp st v (k - 1)).1 - zpn (st ((k - 1 : Nat) : Int)) (v ((k - 1 : Nat) : Int)) + 1 := rfl
      have a2 : (zsp st v (k - 1 + 1)).2 = zup (zsp st v (k - 1)).2 ((zsp st v (k - 1)).1 - zpn (st ((k - 1 : Nat) : Int)) (v ((k - 1 : Nat) : Int))) ((k - 1 : Nat) : Int) := rfl
      rw [← k1] at a1 a2
      rw [a2, show (zsp st v (k - 1)).1 - zpn (st ((k - 1 : Nat) : Int)) (v ((k - 1 : Nat) : Int)) = 0 by omega, zup_at]
      omega
    obtain ⟨s1, s2, s3, s4, s5⟩ := hS
    obtain ⟨q1, q2, q3⟩ := s5 0 (by omega) (by omega)
    have q1 : N 252 (0 + 1) = N 252 0 + ((znF eq st v k ((zsp st v k).2 0)).length : Int) := q1
    have q2 : zat (N 251) (N 252 0) (znF eq st v k ((zsp st v k).2 0)) := q2
    rw [e2, s3] at q1 q2
    refine bX12_say_14 hG ?_
    rw [e46]
    refine ⟨hq, fun _ => h N hN q2 (by have := q1; rw [Int.zero_add, Int.zero_add] at this; exact this), fun c => absurd c (by omega)⟩
  | r + 1, k, N, hk, hN, hS => by
    have e46 : N 246 q = len := by rw [hN 246 q (by unfold zhw zhit; simp; omega)]; exact hl
    have eS : N 247 ((240 * q) + (2 * (k : Int))) = st k := by rw [hN 247 _ (by unfold zhw zhit; simp; omega)]; exact hst k
    have eV : N 247 (((240 * q) + (2 * (k : Int))) + 1) = v k := by rw [hN 247 _ (by unfold zhw zhit; simp; omega)]; exact hv k
    obtain ⟨w1, w2, w3, w4, w5, w6, w7⟩ := hw.1 k (by omega)
    have sp : (zsp st v k).1 ≤ k := zsp_le k (fun i hi => (hw.1 i (by omega)).2.1.1)
    have inn := zsp_in (st := st) (v := v) k (fun i hi => (hw.1 i (by omega)).2.1)
    have bs : zbs st v k = (zsp st v k).1 - zpn (st k) (v k) := rfl
    have p1 : (zsp st v (k + 1)).1 = (zsp st v k).1 - zpn (st k) (v k) + 1 := rfl
    have p2 : (zsp st v (k + 1)).2 = zup (zsp st v k).2 ((zsp st v k).1 - zpn (st k) (v k)) k := rfl
    -- the next stack
    have nxt : ∀ N', zfr zmF M N' → ∀ m, (m = zlv st v (k + 1) k) → zSt N' (zupE (fun m => znF eq st v k ((zsp st v k).2 m)) ((zsp st v k).1 - zpn (st k) (v k)) (znsn eq (st k) (v k) (fun j => znF eq st v k (zcd st v k j)))) ((zsp st v k).1 - zpn (st k) (v k) + 1) (k + 1) (zup (fun m => zlv st v k ((zsp st v k).2 m)) ((zsp st v k).1 - zpn (st k) (v k)) m) (3 * k + 3) → Y G (d + 4) mX12_say 14 [(2, 234), (0, q), (0, eq), (0, (k : Int) + 1), (9, 0), (9, 0)] [] N' Q := fun N' hN' m hm hs => by
      refine s_say14 hG hq he hl hlen hst hv hw hc h r (k + 1) N' (by omega) hN' ?_
      rw [p1]
      obtain ⟨x1, x2, x3, x4, x5⟩ := hs
      refine ⟨x1, x2, x3, by omega, fun j j0 j1 => ?_⟩
      obtain ⟨y1, y2, y3⟩ := x5 j j0 j1
      rw [p2]
      show N' 252 (j + 1) = N' 252 j + ((znF eq st v (k + 1) (zup (zsp st v k).2 ((zsp st v k).1 - zpn (st k) (v k)) k j)).length : Int) ∧ zat (N' 251) (N' 252 j) (znF eq st v (k + 1) (zup (zsp st v k).2 ((zsp st v k).1 - zpn (st k) (v k)) k j)) ∧ znk (k + 1 + 1) (znF eq st v (k + 1) (zup (zsp st v k).2 ((zsp st v k).1 - zpn (st k) (v k)) k j)) (zlv st v (k + 1) (zup (zsp st v k).2 ((zsp st v k).1 - zpn (st k) (v k)) k j))
      by_cases c : j = (zsp st v k).1 - zpn (st k) (v k)
      · subst c
        rw [zupE_at] at y1 y2 y3
        rw [zup_at, hm] at y3
        rw [zup_at, znF_at]
        exact ⟨y1, y2, y3⟩
      · rw [zupE_ne c] at y1 y2 y3
        rw [zup_ne c] at y3
        have := inn.2 j j0 (by omega)
        rw [zup_ne c, znF_ne (by omega), zlv_ne (by omega)]
        exact ⟨y1, y2, y3⟩
    have lvk : ¬ st k < 2 → zlv st v (k + 1) k = zsuN (fun j => zlv st v k ((zsp st v k).2 ((zsp st v k).1 - zpn (st k) (v k) + j))) (zpn (st k) (v k)).toNat := fun c => by
      rw [zlv_at, if_neg c]; rfl
    have l16 := zlv_16 hw hc (k := k) (by omega)
    have l1 := znk_1 _ _ _ (znF_k (eq := eq) hw (k + 1) (by omega) k (by omega) (by omega))
    refine bX12_say_14 hG ?_
    rw [e46, eS, eV]
    refine ⟨hq, fun c => absurd c (by omega), fun _ => ⟨by omega, by omega, by omega, by omega, by omega, by omega, by omega, by omega, by omega, fun c1 => ⟨fun c2 => ⟨fun c3 => ⟨fun c10 => ⟨fun c6 => ?_, fun c6 => ?_⟩, fun c10 => ?_⟩, fun c3 => ?_⟩, fun c2 => ?_⟩, fun c1 => ?_⟩⟩
    · -- two parts
      have pn : zpn (st k) (v k) = 2 := by unfold zpn; rw [if_neg (by omega), if_neg (by omega), if_neg (by omega), if_neg (by omega), if_pos (by omega)]
      refine s_sayWord (n := 2) (v := v k) hG (by omega) he hS (by omega) ⟨by rw [if_neg (by omega)]; rfl, by show (2 : Int) ≤ _; omega⟩ rfl (fun N' hN' hs => bX12_say_215 hG ⟨by omega, nxt N' (zfr_trans hN hN') (zsuN (fun j => zlv st v k ((zsp st v k).2 ((zsp st v k).1 - ((2 : Nat) : Int) + j))) 2) ?_ ?_⟩)
      · rw [lvk (by omega), pn]; rfl
      · rw [pn]
        have : (fun j => znF eq st v k (zcd st v k j)) = (fun j => (fun m => znF eq st v k ((zsp st v k).2 m)) ((zsp st v k).1 - ((2 : Nat) : Int) + j)) := by
          funext j; unfold zcd; rw [bs, pn]; rfl
        rw [this]; exact hs
    · have pn : zpn (st k) (v k) = 1 := by unfold zpn; rw [if_neg (by omega), if_neg (by omega), if_neg (by omega), if_pos (by omega)]
      refine s_sayWord (n := 1) (v := v k) hG (by omega) he hS (by omega) ⟨by rw [if_pos (by omega)]; rfl, by show (1 : Int) ≤ _; omega⟩ rfl (fun N' hN' hs => bX12_say_215 hG ⟨by omega, nxt N' (zfr_trans hN hN') (zsuN (fun j => zlv st v k ((zsp st v k).2 ((zsp st v k).1 - ((1 : Nat) : Int) + j))) 1) ?_ ?_⟩)
      · rw [lvk (by omega), pn]; rfl
      · rw [pn]
        have : (fun j => znF eq st v k (zcd st v k j)) = (fun j => (fun m => znF eq st v k ((zsp st v k).2 m)) ((zsp st v k).1 - ((1 : Nat) : Int) + j)) := by
          funext j; unfold zcd; rw [bs, pn]; rfl
        rw [this]; exact hs
    · have pn : zpn (st k) (v k) = 4 := by unfold zpn; rw [if_neg (by omega), if_neg (by omega), if_neg (by omega), if_neg (by omega), if_neg (by omega)]
      refine s_sayIf hG (w5 c10) he hS (by omega) (by omega) rfl (fun N' hN' hs => bX12_say_193 hG ⟨by omega, nxt N' (zfr_trans hN hN') (zsuN (fun j => zlv st v k ((zsp st v k).2 ((zsp st v k).1 - 4 + j))) 4) ?_ ?_⟩)
      · rw [lvk (by omega), pn]; rfl
      · rw [pn]
        have : (fun j => znF eq st v k (zcd st v k j)) = (fun j => (fun m => znF eq st v k ((zsp st v k).2 m)) ((zsp st v k).1 - 4 + j)) := by
          funext j; unfold zcd; rw [bs, pn]
        rw [this, c10]; exact hs
    · -- a product
      have pn : zpn (st k) (v k) = v k := by unfold zpn; rw [if_neg (by omega), if_neg (by omega), if_pos c3]
      have p16 := w6 (Or.inr c3)
      obtain ⟨n, hn⟩ := Int.eq_ofNat_of_zero_le (show 0 ≤ v k by omega)
      have ag : ∀ i : Nat, (i : Int) ≤ n → zLs (zag (fun m => znF eq st v k ((zsp st v k).2 m)) 0 (zsp st v k).1 n) i = zna 3 (v k) (fun j => znF eq st v k (zcd st v k j)) i := fun i => by
        induction i with
        | zero => intro _; rfl
        | succ i ih =>
          intro hi
          show zLs _ i ++ [zag _ 0 _ _ (i : Int)] = zna 3 (v k) _ i ++ [(if (3 : Int) = 2 ∧ zsg (v k) i then 1 else 0, znF eq st v k (zcd st v k i))]
          rw [ih (by omega), if_neg (fun z => absurd z.1 (by decide))]
          unfold zag zcd
          rw [zsh0 (by omega), bs, pn, hn]
      have agn := ag n (by omega)
      have go := s_saySum (M := N) (n := n) (k0 := 3) (x3 := 0) (eq := eq) (d := d) (m := zlv st v (k + 1) k) (Q := fun r M' => Y G (d + 3 + 1) mX12_say 176 [(2, 234), (0, q), (0, eq), (0, (k : Int)), (0, st k), (0, v k)] (zpush r []) M' Q) hG (Or.inr rfl) he hS (by omega) ⟨by omega, by omega⟩ (by rw [agn]; exact zna_s n) (by rw [lvk (by omega), pn, hn]; rfl) ⟨l1, l16⟩ (fun N' hN' hs => bX12_say_176 hG ⟨by omega, nxt N' (zfr_trans hN hN') _ rfl ?_⟩)
      · rw [c3] at go ⊢
        rw [← hn] at go; exact go
      · rw [agn] at hs
        have ez : znsn eq (st k) (v k) (fun j => znF eq st v k (zcd st v k j)) = znS eq 3 (zna 3 (v k) (fun j => znF eq st v k (zcd st v k j)) n) := by
          unfold znsn
          rw [if_neg (by omega), if_pos (by omega), pn, hn, c3]; rfl
        rw [ez, pn, hn]
        rw [hn] at hs
        exact hs
    · -- a sum
      have pn : zpn (st k) (v k) = zand (v k) 255 := by unfold zpn; rw [if_neg (by omega), if_pos c2]
      have p16 := w6 (Or.inl c2)
      obtain ⟨n, hn⟩ := Int.eq_ofNat_of_zero_le (show 0 ≤ zand (v k) 255 by omega)
      have ag : ∀ i : Nat, (i : Int) ≤ n → zLs (zag (fun m => znF eq st v k ((zsp st v k).2 m)) (zshr (v k) 8) (zsp st v k).1 n) i = zna 2 (v k) (fun j => znF eq st v k (zcd st v k j)) i := fun i => by
        induction i with
        | zero => intro _; rfl
        | succ i ih =>
          intro hi
          show zLs _ i ++ [zag _ (zshr (v k) 8) _ _ (i : Int)] = zna 2 (v k) _ i ++ [(if (2 : Int) = 2 ∧ zsg (v k) i then 1 else 0, znF eq st v k (zcd st v k i))]
          have bit := zand1_01 (zshr (zshr (v k) 8) i)
          have e : zand (zshr (zshr (v k) 8) i) 1 = if (2 : Int) = 2 ∧ zsg (v k) i then 1 else 0 := by
            by_cases x : zsg (v k) i
            · rw [if_pos ⟨rfl, x⟩]; exact x
            · rw [if_neg (fun z => x z.2)]
              rcases bit with z | z
              · exact z
              · exact absurd z x
          have t : zag (fun m => znF eq st v k ((zsp st v k).2 m)) (zshr (v k) 8) (zsp st v k).1 n i = (if (2 : Int) = 2 ∧ zsg (v k) i then 1 else 0, znF eq st v k (zcd st v k i)) := Prod.ext e (by
            show znF eq st v k ((zsp st v k).2 ((zsp st v k).1 - n + i)) = _
            unfold zcd
            rw [bs, pn, hn])
          rw [ih (by omega), t]
      have agn := ag n (by omega)
      have go := s_saySum (M := N) (n := n) (k0 := 2) (x3 := zshr (v k) 8) (eq := eq) (d := d) (m := zlv st v (k + 1) k) (Q := fun r M' => Y G (d + 3 + 1) mX12_say 157 [(2, 234), (0, q), (0, eq), (0, (k : Int)), (0, st k), (0, v k)] (zpush r []) M' Q) hG (Or.inl rfl) he hS (by omega) ⟨by omega, by omega⟩ (by rw [agn]; exact zna_s n) (by rw [lvk (by omega), pn, hn]; rfl) ⟨l1, l16⟩ (fun N' hN' hs => bX12_say_157 hG ⟨by omega, nxt N' (zfr_trans hN hN') _ rfl ?_⟩)
      · rw [c2] at go ⊢
        rw [← hn] at go; exact go
      · rw [agn] at hs
        have ez : znsn eq (st k) (v k) (fun j => znF eq st v k (zcd st v k j)) = znS eq 2 (zna 2 (v k) (fun j => znF eq st v k (zcd st v k j)) n) := by
          unfold znsn
          rw [if_neg (by omega), if_pos (by omega), pn, hn, c2]; rfl
        rw [ez, pn, hn]
        exact hs
    · -- a leaf
      obtain ⟨s1, s2, s3, s4, s5⟩ := id hS
      have pn : zpn (st k) (v k) = 0 := by unfold zpn; rw [if_pos (by omega)]
      have f0 := zSt_0 hS (i := (zsp st v k).1) (by omega) (by omega)
      rw [s1]
      refine ⟨by omega, by omega, by omega, by omega, by omega, by omega, by omega, by omega, by omega, by omega, by omega, ?_⟩
      have hN2 : zfr zmF M (zset (zset (zset (zset N 251 (N 252 (zsp st v k).1) (st k)) 251 (N 252 (zsp st v k).1 + 1) (v k)) 252 ((zsp st v k).1 + 1) (N 252 (zsp st v k).1 + 2)) 234 36 ((zsp st v k).1 + 1)) := zfr_set (zfr_set (zfr_set (zfr_set hN (zhit_at 0 rfl ⟨by omega, by omega⟩)) (zhit_at 0 rfl ⟨by omega, by omega⟩)) (zhit_at 1 rfl ⟨by omega, by omega⟩)) (zhit_at 6 rfl ⟨by decide, by decide⟩)
      refine nxt _ hN2 1 (by rw [zlv_at, if_pos (by omega)]) ?_
      have ez : znsn eq (st k) (v k) (fun j => znF eq st v k (zcd st v k j)) = [st k, v k] := by unfold znsn; rw [if_pos (by omega)]
      rw [pn, ez, Int.sub_zero]
      have r252 : ∀ (x : Int), x ≠ (zsp st v k).1 + 1 → zset (zset (zset (zset N 251 (N 252 (zsp st v k).1) (st k)) 251 (N 252 (zsp st v k).1 + 1) (v k)) 252 ((zsp st v k).1 + 1) (N 252 (zsp st v k).1 + 2)) 234 36 ((zsp st v k).1 + 1) 252 x = N 252 x := fun x hx => by
        rw [zset_off (by decide), zset_ne (fun z => hx z.2), zset_off (by decide), zset_off (by decide)]
      have r252' : zset (zset (zset (zset N 251 (N 252 (zsp st v k).1) (st k)) 251 (N 252 (zsp st v k).1 + 1) (v k)) 252 ((zsp st v k).1 + 1) (N 252 (zsp st v k).1 + 2)) 234 36 ((zsp st v k).1 + 1) 252 ((zsp st v k).1 + 1) = N 252 (zsp st v k).1 + 2 := by
        rw [zset_off (by decide)]; exact zset_same
      have r251 : zset (zset (zset (zset N 251 (N 252 (zsp st v k).1) (st k)) 251 (N 252 (zsp st v k).1 + 1) (v k)) 252 ((zsp st v k).1 + 1) (N 252 (zsp st v k).1 + 2)) 234 36 ((zsp st v k).1 + 1) 251 = zset (zset N 251 (N 252 (zsp st v k).1) (st k)) 251 (N 252 (zsp st v k).1 + 1) (v k) 251 := by
        rw [zset_off (by decide), zset_off (by decide)]
      refine ⟨zset_same, by omega, by rw [r252 0 (by omega)]; exact s3, by rw [r252']; omega, fun j j0 j1 => ?_⟩
      rw [r251]
      by_cases c : j = (zsp st v k).1
      · subst c
        rw [zupE_at, zup_at, r252', r252 _ (by omega)]
        refine ⟨rfl, ⟨?_, zset_same, trivial⟩, ?_⟩
        · rw [zset_ne (fun z => by have := z.2; omega)]; exact zset_same
        · have := znF_k (eq := eq) hw (k + 1) (by omega) k (by omega) (by omega)
          rw [znF_at, ez, zlv_at, if_pos (by omega)] at this
          exact this
      · rw [zupE_ne c, zup_ne c, r252 j (by omega), r252 (j + 1) (by omega)]
        obtain ⟨y1, y2, y3⟩ := s5 j j0 (by omega)
        have y1 : N 252 (j + 1) = N 252 j + ((znF eq st v k ((zsp st v k).2 j)).length : Int) := y1
        have z1 := zSt_0 hS (i := j + 1) (by omega) (by omega)
        refine ⟨y1, zat_c _ _ (fun i i0 i1 => ?_) y2, znk_le (by omega) (Int.le_refl _) y3⟩
        rw [zset_ne (fun z => by have := z.2; omega), zset_ne (fun z => by have := z.2; omega)]
theorem s_msay (hG : zP G) {q eq len : Int} {st v : Int → Int} (hq : 0 ≤ q ∧ q < 12) (he : 0 ≤ eq ∧ eq ≤ 255) (hl : M 246 q = len) (hlen : 1 ≤ len ∧ len ≤ 120) (hst : ∀ k, M 247 (240 * q + 2 * k) = st k) (hv : ∀ k, M 247 (240 * q + 2 * k + 1) = v k) (hw : zwf st v len) (hc : zlc st len.toNat ≤ 16)
    (h : ∀ N, zfr zmF M N → zat (N 251) 0 (znF eq st v len.toNat (len - 1)) → Q (0, ((znF eq st v len.toNat (len - 1)).length : Int)) N) : Y G (d + 4) mX12_say 0 [(2, 234), (0, q), (0, eq), (9, 0), (9, 0), (9, 0)] [] M Q := by
  refine bX12_say_0 hG (s_say14 hG hq he hl hlen hst hv hw hc (fun N hN hz hn => ?_) len.toNat 0 _ (by omega) (zfr_set (zfr_set zfr_rfl (zhit_at 6 rfl ⟨by decide, by decide⟩)) (zhit_at 1 rfl ⟨by decide, by decide⟩)) ⟨?_, by show (0 : Int) ≤ 0 ∧ (0 : Int) ≤ 128; decide, zset_same, ?_, fun j j0 j1 => ?_⟩)
  · rw [hn]; exact h N hN hz
  · rw [zset_off (by decide)]; exact zset_same
  · show zset _ 252 0 0 252 0 + 0 ≤ 3 * ((0 : Nat) : Int)
    rw [zset_same]; decide
  · exact absurd j1 (by show ¬ j < 0; omega)
end YA
