section ST1
variable {G : zG} {d : Nat} {n n1 : Nat} {M : zM} {Q : zV → zM → Prop} {x i : Int}
theorem s_Jcoder (hx : x = 10 ∨ x = 11) (h : Q (0, 0) M) : Z G d mJ0_coder_7d493 0 [(4, x)] [] n n M Q := by
  refine z_getk dJ0_coder_7d493_0 fJ0_38 ?_
  refine z_ifeq (tgt := 13) dJ0_coder_7d493_3 rfl (fun q => absurd q (by decide)) (fun _ => ?_)
  refine z_aloadn dJ0_coder_7d493_6 rfl (Or.inr rfl) ?_
  refine z_getc dJ0_coder_7d493_7 hx fJ0_15 ?_
  refine z_goto (tgt := 14) dJ0_coder_7d493_10 rfl ?_
  exact z_iretn dJ0_coder_7d493_14 ⟨_, rfl, by decide +kernel⟩ rfl h
theorem s_Jlatin (hx : x = 10 ∨ x = 11) (h : Q (0, 1) M) : Z G d mJ0_isLatin1_aae02 0 [(4, x)] [] n n M Q := by
  refine z_getk dJ0_isLatin1_aae02_0 fJ0_38 ?_
  refine z_ifeq (tgt := 17) dJ0_isLatin1_aae02_3 rfl (fun q => absurd q (by decide)) (fun _ => ?_)
  refine z_aloadn dJ0_isLatin1_aae02_6 rfl (Or.inr rfl) ?_
  refine z_getc dJ0_isLatin1_aae02_7 hx fJ0_15 ?_
  refine z_ifne (tgt := 17) dJ0_isLatin1_aae02_10 rfl (fun q => absurd rfl q) (fun _ => ?_)
  refine z_iconst dJ0_isLatin1_aae02_13 ki_1 ?_
  refine z_goto (tgt := 18) dJ0_isLatin1_aae02_14 rfl ?_
  exact z_ireturn dJ0_isLatin1_aae02_18 (Or.inr ⟨rfl, by decide, by decide⟩) rfl h
theorem st_shr (k : Nat) (h : k < 1000) : zshr (k : Int) 0 = k := by
  have q : ∀ k : Fin 1000, zshr (k.val : Int) 0 = (k.val : Int) := by decide +kernel
  exact q ⟨k, h⟩
theorem s_Jlen (hx : x = 10 ∨ x = 11) (h : Q (0, ((st_L x).length : Int)) M) : Z G (d + 1) mJ0_length_8abf5 0 [(4, x)] [] n n M Q := by
  refine z_aloadn dJ0_length_8abf5_0 rfl (Or.inr rfl) ?_
  refine z_getv dJ0_length_8abf5_1 hx fJ0_9 ?_
  refine z_lens dJ0_length_8abf5_4 hx ?_
  refine z_aloadn dJ0_length_8abf5_5 rfl (Or.inr rfl) ?_
  refine z_callt (mt2 := mJ0_coder_7d493) (en := [(4, x)]) (st := [(0, ((st_L x).length : Int))]) (as := []) dJ0_length_8abf5_6 lJ0_335 kJ0_coder_7d493 iJ0_coder_7d493 eJ0_coder_7d493 rfl hx rfl (Nat.le_of_ble_eq_true rfl) (Nat.le_of_ble_eq_true rfl) rfl (Nat.le_refl _) (s_Jcoder hx ?_)
  show Z G (d + 1) mJ0_length_8abf5 9 [(4, x)] [(0, 0), (0, ((st_L x).length : Int))] n n M Q
  refine z_ishr dJ0_length_8abf5_9 ?_
  rw [st_shr _ (st_len x)]
  exact z_ireturn dJ0_length_8abf5_10 (Or.inl rfl) rfl h
theorem s_Jchk3 {a b : Int} {u : zV} (h : 0 ≤ a ∧ a < b) (hq : Q (0, a) M) : Z G d mJ3_checkIndex_8e157 0 [(0, a), (0, b), u] [] n n M Q := by
  refine z_iloadn dJ3_checkIndex_8e157_0 rfl ?_
  refine z_iflt (tgt := 9) dJ3_checkIndex_8e157_1 rfl (fun q => absurd q (by omega)) (fun _ => ?_)
  refine z_iloadn dJ3_checkIndex_8e157_4 rfl ?_
  refine z_iloadn dJ3_checkIndex_8e157_5 rfl ?_
  refine z_icmplt (tgt := 16) dJ3_checkIndex_8e157_6 rfl (fun _ => ?_) (fun q => absurd q (by omega))
  refine z_iloadn dJ3_checkIndex_8e157_16 rfl ?_
  exact z_ireturn dJ3_checkIndex_8e157_17 (Or.inl rfl) rfl hq
theorem s_Jchk0a {a b : Int} {u : zV} (hu : u = (2, 0) ∨ u = (4, 14)) (h : 0 ≤ a ∧ a < b) (hq : Q (9, 0) M) : Z G (d + 1) mJ0_checkIndex_df160 5 [(0, a), (0, b)] [u, (0, b), (0, a)] n n M Q := by
  have k : Z G d mJ3_checkIndex_8e157 0 [(0, a), (0, b), u] [] n n M (fun r M' => Z G (d + 1) mJ0_checkIndex_df160 8 [(0, a), (0, b)] (zpush r []) n n M' Q) := by
    refine s_Jchk3 h ?_
    show Z G (d + 1) mJ0_checkIndex_df160 8 [(0, a), (0, b)] [(0, a)] n n M Q
    refine z_pop dJ0_checkIndex_df160_8 (show (0 : Nat) ≠ 1 by decide) ?_
    exact z_return dJ0_checkIndex_df160_9 rfl rfl hq
  rcases hu with rfl | rfl
  · exact z_calls (mt2 := mJ3_checkIndex_8e157) (st := []) (as := [(0, a), (0, b), (2, 0)]) dJ0_checkIndex_df160_5 (Or.inl lJ0_1059) kJ3_checkIndex_8e157 tJ3_checkIndex_8e157 rfl (Nat.le_of_ble_eq_true rfl) (Nat.le_of_ble_eq_true rfl) ⟨Nat.le_refl _, Nat.le_refl _⟩ k
  · exact z_calls (mt2 := mJ3_checkIndex_8e157) (st := []) (as := [(0, a), (0, b), (4, 14)]) dJ0_checkIndex_df160_5 (Or.inl lJ0_1059) kJ3_checkIndex_8e157 tJ3_checkIndex_8e157 rfl (Nat.le_of_ble_eq_true rfl) (Nat.le_of_ble_eq_true rfl) ⟨Nat.le_refl _, Nat.le_refl _⟩ k
theorem st_no4 {a b : Int} : ∀ v ∈ ([(0, a), (0, b)] : List zV), v.1 ≠ 4 := by
  intro v hv
  rcases List.mem_cons.mp hv with rfl | hv
  · show (0 : Nat) ≠ 4; decide
  · rw [List.mem_singleton.mp hv]; show (0 : Nat) ≠ 4; decide
theorem s_Jchk0 {a b : Int} (h : 0 ≤ a ∧ a < b) (hq : Q (9, 0) M) : Z G (d + 1) mJ0_checkIndex_df160 0 [(0, a), (0, b)] [] n n M Q := by
  refine z_iloadn dJ0_checkIndex_df160_0 rfl ?_
  refine z_iloadn dJ0_checkIndex_df160_1 rfl ?_
  exact z_fmt dJ0_checkIndex_df160_2 fJ0_1053 st_no4 st_no4 (s_Jchk0a (Or.inl rfl) h hq) (fun q => s_Jchk0a (Or.inr rfl) h hq)
theorem s_JchA1 (hx : x = 10 ∨ x = 11) (hi : 0 ≤ i ∧ i < (st_L x).length) (h : Q (0, st_c x i) M) : Z G (d + 2) mJ1_charAt_3b067 0 [(4, x + 2), (0, i)] [] n n M Q := by
  have hr := st_crng x i
  refine z_iloadn dJ1_charAt_3b067_0 rfl ?_
  refine z_aloadn dJ1_charAt_3b067_1 rfl (Or.inr rfl) ?_
  refine z_lens dJ1_charAt_3b067_2 hx ?_
  refine z_calls (mt2 := mJ0_checkIndex_df160) (st := []) (as := [(0, i), (0, ((st_L x).length : Int))]) dJ1_charAt_3b067_3 (Or.inl lJ1_9) kJ0_checkIndex_df160 tJ0_checkIndex_df160 rfl (Nat.le_of_ble_eq_true rfl) (Nat.le_of_ble_eq_true rfl) ⟨Nat.le_refl _, Nat.le_refl _⟩ (s_Jchk0 hi ?_)
  show Z G (d + 2) mJ1_charAt_3b067 6 [(4, x + 2), (0, i)] [] n n M Q
  refine z_aloadn dJ1_charAt_3b067_6 rfl (Or.inr rfl) ?_
  refine z_iloadn dJ1_charAt_3b067_7 rfl ?_
  refine z_balds dJ1_charAt_3b067_8 hx hi ?_
  refine z_sipush (k := 255) dJ1_charAt_3b067_9 ⟨by decide, ⟨by decide, by decide⟩⟩ ?_
  refine z_iand dJ1_charAt_3b067_12 ?_
  rw [st_and _ hr]
  refine z_i2c dJ1_charAt_3b067_13 ⟨hr.1, by omega⟩ ?_
  exact z_iretn dJ1_charAt_3b067_14 ⟨_, rfl, st_nar _ hr⟩ rfl h
theorem s_JchA (hx : x = 10 ∨ x = 11) (hi : 0 ≤ i ∧ i < (st_L x).length) (h : Q (0, st_c x i) M) : Z G (d + 3) mJ0_charAt_5068e 0 [(4, x), (0, i)] [] n n M Q := by
  have hr := st_crng x i
  refine z_aloadn dJ0_charAt_5068e_0 rfl (Or.inr rfl) ?_
  refine z_callt (mt2 := mJ0_isLatin1_aae02) (en := [(4, x)]) (st := []) (as := []) dJ0_charAt_5068e_1 lJ0_492 kJ0_isLatin1_aae02 iJ0_isLatin1_aae02 eJ0_isLatin1_aae02 rfl hx rfl (Nat.le_of_ble_eq_true rfl) (Nat.le_of_ble_eq_true rfl) rfl (Nat.le_refl _) (s_Jlatin hx ?_)
  show Z G (d + 3) mJ0_charAt_5068e 4 [(4, x), (0, i)] [(0, 1)] n n M Q
  refine z_ifeq (tgt := 16) dJ0_charAt_5068e_4 rfl (fun q => absurd q (by decide)) (fun _ => ?_)
  refine z_aloadn dJ0_charAt_5068e_7 rfl (Or.inr rfl) ?_
  refine z_getv dJ0_charAt_5068e_8 hx fJ0_9 ?_
  refine z_iloadn dJ0_charAt_5068e_11 rfl ?_
  refine z_calls (mt2 := mJ1_charAt_3b067) (st := []) (as := [(4, x + 2), (0, i)]) dJ0_charAt_5068e_12 (Or.inl lJ0_495) kJ1_charAt_3b067 tJ1_charAt_3b067 rfl (Nat.le_of_ble_eq_true rfl) (Nat.le_of_ble_eq_true rfl) ⟨Nat.le_refl _, Nat.le_refl _⟩ (s_JchA1 hx hi ?_)
  show Z G (d + 3) mJ0_charAt_5068e 15 [(4, x), (0, i)] [(0, st_c x i)] n n M Q
  exact z_iretn dJ0_charAt_5068e_15 ⟨_, rfl, st_nar _ hr⟩ rfl h
/-- the first place of c -/
def st_f (c : Int) : List Int → Int → Int
  | [], _ => -1
  | b :: l, k => if b = c then k else st_f c l (k + 1)
theorem s_JixL {c0 c : Int} (hx : x = 10 ∨ x = 11) : ∀ (l : List Int) (k : Nat), (st_L x).drop k = l → k ≤ (st_L x).length → Q (0, st_f c l k) M → Z G d mJ1_indexOfChar_4cfef 7 [(4, x + 2), (0, c0), (0, 0), (0, ((st_L x).length : Int)), (0, c), (0, (k : Int))] [] n n M Q
  | [], k, hl, hk, hq => by
    have h1 : (st_L x).length ≤ k := List.drop_eq_nil_iff.mp hl
    refine z_iload dJ1_indexOfChar_4cfef_7 rfl ?_
    refine z_iloadn dJ1_indexOfChar_4cfef_9 rfl ?_
    refine z_icmpge (tgt := 31) dJ1_indexOfChar_4cfef_10 rfl (fun _ => ?_) (fun q => absurd q (by omega))
    refine z_iconst dJ1_indexOfChar_4cfef_31 ki_m1 ?_
    exact z_ireturn dJ1_indexOfChar_4cfef_32 (Or.inl rfl) rfl hq
  | b :: l, k, hl, hk, hq => by
    have h1 : k < (st_L x).length := by
      rcases Nat.lt_or_ge k (st_L x).length with q | q
      · exact q
      · rw [List.drop_eq_nil_iff.mpr q] at hl; cases hl
    have hL := st_len x
    have hb : st_c x k = b := by
      have e : ((st_L x).drop k)[0]? = some b := by rw [hl]; rfl
      rw [List.getElem?_drop] at e
      unfold st_c
      rw [Int.toNat_natCast, List.getD_eq_getElem?_getD, show k = k + 0 from rfl, e]; rfl
    have hd : (st_L x).drop (k + 1) = l := by
      rw [show (st_L x).drop (k + 1) = ((st_L x).drop k).drop 1 by rw [List.drop_drop], hl]; rfl
    refine z_iload dJ1_indexOfChar_4cfef_7 rfl ?_
    refine z_iloadn dJ1_indexOfChar_4cfef_9 rfl ?_
    refine z_icmpge (tgt := 31) dJ1_indexOfChar_4cfef_10 rfl (fun q => absurd q (by omega)) (fun _ => ?_)
    refine z_aloadn dJ1_indexOfChar_4cfef_13 rfl (Or.inr rfl) ?_
    refine z_iload dJ1_indexOfChar_4cfef_14 rfl ?_
    refine z_balds dJ1_indexOfChar_4cfef_16 hx ⟨by omega, by omega⟩ ?_
    refine z_iload dJ1_indexOfChar_4cfef_17 rfl ?_
    rw [hb]
    unfold st_f at hq
    refine z_icmpne (tgt := 25) dJ1_indexOfChar_4cfef_19 rfl (fun q => ?_) (fun q => ?_)
    · rw [if_neg q] at hq
      refine y_iinc (ls' := [(4, x + 2), (0, c0), (0, 0), (0, ((st_L x).length : Int)), (0, c), (0, ((k + 1 : Nat) : Int))]) dJ1_indexOfChar_4cfef_25 rfl rfl ⟨by omega, by omega⟩ rfl ?_
      refine z_goto (tgt := 7) dJ1_indexOfChar_4cfef_28 rfl ?_
      exact s_JixL hx l (k + 1) hd h1 hq
    · rw [if_pos q] at hq
      refine z_iload dJ1_indexOfChar_4cfef_22 rfl ?_
      exact z_ireturn dJ1_indexOfChar_4cfef_24 (Or.inl rfl) rfl hq
theorem s_JixC {c : Int} (hx : x = 10 ∨ x = 11) (hq : Q (0, st_f (zi2b c) (st_L x) 0) M) : Z G d mJ1_indexOfChar_4cfef 0 [(4, x + 2), (0, c), (0, 0), (0, ((st_L x).length : Int)), (9, 0), (9, 0)] [] n n M Q := by
  refine z_iloadn dJ1_indexOfChar_4cfef_0 rfl ?_
  refine z_i2b dJ1_indexOfChar_4cfef_1 ?_
  refine y_istore (ls' := [(4, x + 2), (0, c), (0, 0), (0, ((st_L x).length : Int)), (0, zi2b c), (9, 0)]) dJ1_indexOfChar_4cfef_2 rfl rfl ?_
  refine z_iloadn dJ1_indexOfChar_4cfef_4 rfl ?_
  refine y_istore (ls' := [(4, x + 2), (0, c), (0, 0), (0, ((st_L x).length : Int)), (0, zi2b c), (0, ((0 : Nat) : Int))]) dJ1_indexOfChar_4cfef_5 rfl rfl ?_
  exact s_JixL hx (st_L x) 0 rfl (Nat.zero_le _) hq
theorem s_Jcan {c : Int} (hc : 0 ≤ c ∧ c ≤ 255) (hq : Q (0, 1) M) : Z G d mJ1_canEncode_9a6ad 0 [(0, c)] [] n n M Q := by
  refine z_iloadn dJ1_canEncode_9a6ad_0 rfl ?_
  refine z_iflt (tgt := 15) dJ1_canEncode_9a6ad_1 rfl (fun q => absurd q (by omega)) (fun _ => ?_)
  refine z_iloadn dJ1_canEncode_9a6ad_4 rfl ?_
  refine z_sipush (k := 255) dJ1_canEncode_9a6ad_5 ⟨by decide, ⟨by decide, by decide⟩⟩ ?_
  refine z_icmpgt (tgt := 15) dJ1_canEncode_9a6ad_8 rfl (fun q => absurd q (by omega)) (fun _ => ?_)
  refine z_iconst dJ1_canEncode_9a6ad_11 ki_1 ?_
  refine z_goto (tgt := 16) dJ1_canEncode_9a6ad_12 rfl ?_
  exact z_ireturn dJ1_canEncode_9a6ad_16 (Or.inr ⟨rfl, by decide, by decide⟩) rfl hq
theorem st_pos (x : Int) : 0 < (st_L x).length := by
  unfold st_L; split <;> decide
theorem s_Jix1 {c : Int} (hx : x = 10 ∨ x = 11) (hc : 0 ≤ c ∧ c ≤ 255) (hq : Q (0, st_f (zi2b c) (st_L x) 0) M) : Z G (d + 1) mJ1_indexOf_4cfef 0 [(4, x + 2), (0, c), (0, 0), (0, ((st_L x).length : Int))] [] n n M Q := by
  have hp := st_pos x
  refine z_iloadn dJ1_indexOf_4cfef_0 rfl ?_
  refine z_calls (mt2 := mJ1_canEncode_9a6ad) (st := []) (as := [(0, c)]) dJ1_indexOf_4cfef_1 (Or.inl lJ1_88) kJ1_canEncode_9a6ad tJ1_canEncode_9a6ad rfl (Nat.le_of_ble_eq_true rfl) (Nat.le_of_ble_eq_true rfl) ⟨Nat.le_refl _, Nat.le_refl _⟩ (s_Jcan hc ?_)
  show Z G (d + 1) mJ1_indexOf_4cfef 4 [(4, x + 2), (0, c), (0, 0), (0, ((st_L x).length : Int))] [(0, 1)] n n M Q
  refine z_ifne (tgt := 9) dJ1_indexOf_4cfef_4 rfl (fun _ => ?_) (fun q => absurd q (by decide))
  refine z_iloadn dJ1_indexOf_4cfef_9 rfl ?_
  refine z_iconst dJ1_indexOf_4cfef_10 ki_0 ?_
  refine z_max dJ1_indexOf_4cfef_11 mwJ1_92 (Nat.le_of_ble_eq_true rfl) ?_
  rw [show max (0 : Int) 0 = 0 from rfl]
  refine y_istoren (ls' := [(4, x + 2), (0, c), (0, 0), (0, ((st_L x).length : Int))]) dJ1_indexOf_4cfef_14 rfl rfl ?_
  refine z_iloadn dJ1_indexOf_4cfef_15 rfl ?_
  refine z_aloadn dJ1_indexOf_4cfef_16 rfl (Or.inr rfl) ?_
  refine z_lens dJ1_indexOf_4cfef_17 hx ?_
  refine z_min dJ1_indexOf_4cfef_18 mwJ1_38 (Nat.le_of_ble_eq_true rfl) ?_
  rw [show min ((st_L x).length : Int) ((st_L x).length : Int) = ((st_L x).length : Int) by omega]
  refine y_istoren (ls' := [(4, x + 2), (0, c), (0, 0), (0, ((st_L x).length : Int))]) dJ1_indexOf_4cfef_21 rfl rfl ?_
  refine z_iloadn dJ1_indexOf_4cfef_22 rfl ?_
  refine z_iloadn dJ1_indexOf_4cfef_23 rfl ?_
  refine z_icmplt (tgt := 29) dJ1_indexOf_4cfef_24 rfl (fun _ => ?_) (fun q => absurd q (by omega))
  refine z_aloadn dJ1_indexOf_4cfef_29 rfl (Or.inr rfl) ?_
  refine z_iloadn dJ1_indexOf_4cfef_30 rfl ?_
  refine z_iloadn dJ1_indexOf_4cfef_31 rfl ?_
  refine z_iloadn dJ1_indexOf_4cfef_32 rfl ?_
  refine z_calls (mt2 := mJ1_indexOfChar_4cfef) (st := []) (as := [(4, x + 2), (0, c), (0, 0), (0, ((st_L x).length : Int))]) dJ1_indexOf_4cfef_33 (Or.inl lJ1_95) kJ1_indexOfChar_4cfef tJ1_indexOfChar_4cfef rfl (Nat.le_of_ble_eq_true rfl) (Nat.le_of_ble_eq_true rfl) ⟨Nat.le_refl _, Nat.le_refl _⟩ (s_JixC hx ?_)
  show Z G (d + 1) mJ1_indexOf_4cfef 36 [(4, x + 2), (0, c), (0, 0), (0, ((st_L x).length : Int))] [(0, st_f (zi2b c) (st_L x) 0)] n n M Q
  exact z_ireturn dJ1_indexOf_4cfef_36 (Or.inl rfl) rfl hq
theorem s_Jix2 {c : Int} (hx : x = 10 ∨ x = 11) (hc : 0 ≤ c ∧ c ≤ 255) (hq : Q (0, st_f (zi2b c) (st_L x) 0) M) : Z G (d + 2) mJ0_indexOf_7cf53 0 [(4, x), (0, c), (0, 0)] [] n n M Q := by
  refine z_aloadn dJ0_indexOf_7cf53_0 rfl (Or.inr rfl) ?_
  refine z_callt (mt2 := mJ0_isLatin1_aae02) (en := [(4, x)]) (st := []) (as := []) dJ0_indexOf_7cf53_1 lJ0_492 kJ0_isLatin1_aae02 iJ0_isLatin1_aae02 eJ0_isLatin1_aae02 rfl hx rfl (Nat.le_of_ble_eq_true rfl) (Nat.le_of_ble_eq_true rfl) rfl (Nat.le_refl _) (s_Jlatin hx ?_)
  show Z G (d + 2) mJ0_indexOf_7cf53 4 [(4, x), (0, c), (0, 0)] [(0, 1)] n n M Q
  refine z_ifeq (tgt := 23) dJ0_indexOf_7cf53_4 rfl (fun q => absurd q (by decide)) (fun _ => ?_)
  refine z_aloadn dJ0_indexOf_7cf53_7 rfl (Or.inr rfl) ?_
  refine z_getv dJ0_indexOf_7cf53_8 hx fJ0_9 ?_
  refine z_iloadn dJ0_indexOf_7cf53_11 rfl ?_
  refine z_iloadn dJ0_indexOf_7cf53_12 rfl ?_
  refine z_aloadn dJ0_indexOf_7cf53_13 rfl (Or.inr rfl) ?_
  refine z_callt (mt2 := mJ0_length_8abf5) (en := [(4, x)]) (st := [(0, 0), (0, c), (4, x + 2)]) (as := []) dJ0_indexOf_7cf53_14 lJ0_505 kJ0_length_8abf5 iJ0_length_8abf5 eJ0_length_8abf5 rfl hx rfl (Nat.le_of_ble_eq_true rfl) (Nat.le_of_ble_eq_true rfl) rfl (Nat.le_refl _) (s_Jlen hx ?_)
  show Z G (d + 2) mJ0_indexOf_7cf53 17 [(4, x), (0, c), (0, 0)] [(0, ((st_L x).length : Int)), (0, 0), (0, c), (4, x + 2)] n n M Q
  refine z_calls (mt2 := mJ1_indexOf_4cfef) (st := []) (as := [(4, x + 2), (0, c), (0, 0), (0, ((st_L x).length : Int))]) dJ0_indexOf_7cf53_17 (Or.inl lJ0_637) kJ1_indexOf_4cfef tJ1_indexOf_4cfef rfl (Nat.le_of_ble_eq_true rfl) (Nat.le_of_ble_eq_true rfl) ⟨Nat.le_refl _, Nat.le_refl _⟩ (s_Jix1 hx hc ?_)
  show Z G (d + 2) mJ0_indexOf_7cf53 20 [(4, x), (0, c), (0, 0)] [(0, st_f (zi2b c) (st_L x) 0)] n n M Q
  refine z_goto (tgt := 36) dJ0_indexOf_7cf53_20 rfl ?_
  exact z_ireturn dJ0_indexOf_7cf53_36 (Or.inl rfl) rfl hq
theorem s_Jix {c : Int} (hx : x = 10 ∨ x = 11) (hc : 0 ≤ c ∧ c ≤ 255) (hq : Q (0, st_f (zi2b c) (st_L x) 0) M) : Z G (d + 3) mJ0_indexOf_0f7a4 0 [(4, x), (0, c)] [] n n M Q := by
  refine z_aloadn dJ0_indexOf_0f7a4_0 rfl (Or.inr rfl) ?_
  refine z_iloadn dJ0_indexOf_0f7a4_1 rfl ?_
  refine z_iconst dJ0_indexOf_0f7a4_2 ki_0 ?_
  refine z_callt (mt2 := mJ0_indexOf_7cf53) (en := [(4, x), (0, c), (0, 0)]) (st := []) (as := [(0, c), (0, 0)]) dJ0_indexOf_0f7a4_3 lJ0_633 kJ0_indexOf_7cf53 iJ0_indexOf_7cf53 eJ0_indexOf_7cf53 rfl hx rfl (Nat.le_of_ble_eq_true rfl) (Nat.le_of_ble_eq_true rfl) rfl (Nat.le_refl _) (s_Jix2 hx hc ?_)
  show Z G (d + 3) mJ0_indexOf_0f7a4 6 [(4, x), (0, c)] [(0, st_f (zi2b c) (st_L x) 0)] n n M Q
  exact z_ireturn dJ0_indexOf_0f7a4_6 (Or.inl rfl) rfl hq
end ST1
