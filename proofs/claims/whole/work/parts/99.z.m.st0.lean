abbrev mJ0_length_8abf5 : zMt := (yJ0_length_8abf5, cJ0_length_8abf5, 1, some .int)
theorem kJ0_length_8abf5 : zmk mJ0_length_8abf5 0 := ⟨zT_3 (i := 133) (by decide +kernel) rfl, zT_1 (i := 16) (by decide +kernel) rfl, ⟨by decide +kernel, by decide +kernel, by decide +kernel⟩, by decide +kernel, by decide⟩
theorem iJ0_length_8abf5 : Cond.instanceMethod yJ0_length_8abf5 ∈ zTs := zT_3 (i := 131) (by decide +kernel) rfl
theorem eJ0_length_8abf5 : Cond.selects yJ0_length_8abf5.cls yJ0_length_8abf5 yJ0_length_8abf5 ∈ zTs := zT_3 (i := 132) (by decide +kernel) rfl
abbrev mJ0_charAt_5068e : zMt := (yJ0_charAt_5068e, cJ0_charAt_5068e, 2, some .char)
theorem kJ0_charAt_5068e : zmk mJ0_charAt_5068e 1 := ⟨zT_3 (i := 143) (by decide +kernel) rfl, zT_1 (i := 16) (by decide +kernel) rfl, ⟨by decide +kernel, by decide +kernel, by decide +kernel⟩, by decide +kernel, by decide⟩
theorem iJ0_charAt_5068e : Cond.instanceMethod yJ0_charAt_5068e ∈ zTs := zT_3 (i := 141) (by decide +kernel) rfl
theorem eJ0_charAt_5068e : Cond.selects yJ0_charAt_5068e.cls yJ0_charAt_5068e yJ0_charAt_5068e ∈ zTs := zT_3 (i := 142) (by decide +kernel) rfl
abbrev mJ0_indexOf_0f7a4 : zMt := (yJ0_indexOf_0f7a4, cJ0_indexOf_0f7a4, 2, some .int)
theorem kJ0_indexOf_0f7a4 : zmk mJ0_indexOf_0f7a4 1 := ⟨zT_3 (i := 186) (by decide +kernel) rfl, zT_1 (i := 16) (by decide +kernel) rfl, ⟨by decide +kernel, by decide +kernel, by decide +kernel⟩, by decide +kernel, by decide⟩
theorem iJ0_indexOf_0f7a4 : Cond.instanceMethod yJ0_indexOf_0f7a4 ∈ zTs := zT_3 (i := 184) (by decide +kernel) rfl
theorem eJ0_indexOf_0f7a4 : Cond.selects yJ0_indexOf_0f7a4.cls yJ0_indexOf_0f7a4 yJ0_indexOf_0f7a4 ∈ zTs := zT_3 (i := 185) (by decide +kernel) rfl
abbrev mJ0_indexOf_7cf53 : zMt := (yJ0_indexOf_7cf53, cJ0_indexOf_7cf53, 3, some .int)
theorem kJ0_indexOf_7cf53 : zmk mJ0_indexOf_7cf53 2 := ⟨zT_3 (i := 190) (by decide +kernel) rfl, zT_1 (i := 16) (by decide +kernel) rfl, ⟨by decide +kernel, by decide +kernel, by decide +kernel⟩, by decide +kernel, by decide⟩
theorem iJ0_indexOf_7cf53 : Cond.instanceMethod yJ0_indexOf_7cf53 ∈ zTs := zT_3 (i := 188) (by decide +kernel) rfl
theorem eJ0_indexOf_7cf53 : Cond.selects yJ0_indexOf_7cf53.cls yJ0_indexOf_7cf53 yJ0_indexOf_7cf53 ∈ zTs := zT_3 (i := 189) (by decide +kernel) rfl
abbrev mJ0_coder_7d493 : zMt := (yJ0_coder_7d493, cJ0_coder_7d493, 1, some .byte)
theorem kJ0_coder_7d493 : zmk mJ0_coder_7d493 0 := ⟨zT_3 (i := 137) (by decide +kernel) rfl, zT_1 (i := 16) (by decide +kernel) rfl, ⟨by decide +kernel, by decide +kernel, by decide +kernel⟩, by decide +kernel, by decide⟩
theorem iJ0_coder_7d493 : Cond.instanceMethod yJ0_coder_7d493 ∈ zTs := zT_3 (i := 135) (by decide +kernel) rfl
theorem eJ0_coder_7d493 : Cond.selects yJ0_coder_7d493.cls yJ0_coder_7d493 yJ0_coder_7d493 ∈ zTs := zT_3 (i := 136) (by decide +kernel) rfl
abbrev mJ0_isLatin1_aae02 : zMt := (yJ0_isLatin1_aae02, cJ0_isLatin1_aae02, 1, some .boolean)
theorem kJ0_isLatin1_aae02 : zmk mJ0_isLatin1_aae02 0 := ⟨zT_3 (i := 147) (by decide +kernel) rfl, zT_1 (i := 16) (by decide +kernel) rfl, ⟨by decide +kernel, by decide +kernel, by decide +kernel⟩, by decide +kernel, by decide⟩
theorem iJ0_isLatin1_aae02 : Cond.instanceMethod yJ0_isLatin1_aae02 ∈ zTs := zT_3 (i := 145) (by decide +kernel) rfl
theorem eJ0_isLatin1_aae02 : Cond.selects yJ0_isLatin1_aae02.cls yJ0_isLatin1_aae02 yJ0_isLatin1_aae02 ∈ zTs := zT_3 (i := 146) (by decide +kernel) rfl
abbrev mJ0_checkIndex_df160 : zMt := (yJ0_checkIndex_df160, cJ0_checkIndex_df160, 2, none)
theorem kJ0_checkIndex_df160 : zmk mJ0_checkIndex_df160 2 := ⟨zT_3 (i := 153) (by decide +kernel) rfl, zT_1 (i := 16) (by decide +kernel) rfl, ⟨by decide +kernel, by decide +kernel, by decide +kernel⟩, by decide +kernel, by decide⟩
theorem tJ0_checkIndex_df160 : Cond.static yJ0_checkIndex_df160 ∈ zTs := zT_3 (i := 152) (by decide +kernel) rfl
abbrev mJ1_charAt_3b067 : zMt := (yJ1_charAt_3b067, cJ1_charAt_3b067, 2, some .char)
theorem kJ1_charAt_3b067 : zmk mJ1_charAt_3b067 2 := ⟨zT_3 (i := 150) (by decide +kernel) rfl, zT_1 (i := 17) (by decide +kernel) rfl, ⟨by decide +kernel, by decide +kernel, by decide +kernel⟩, by decide +kernel, by decide⟩
theorem tJ1_charAt_3b067 : Cond.static yJ1_charAt_3b067 ∈ zTs := zT_3 (i := 149) (by decide +kernel) rfl
abbrev mJ1_canEncode_9a6ad : zMt := (yJ1_canEncode_9a6ad, cJ1_canEncode_9a6ad, 1, some .boolean)
theorem kJ1_canEncode_9a6ad : zmk mJ1_canEncode_9a6ad 1 := ⟨zT_3 (i := 197) (by decide +kernel) rfl, zT_1 (i := 17) (by decide +kernel) rfl, ⟨by decide +kernel, by decide +kernel, by decide +kernel⟩, by decide +kernel, by decide⟩
theorem tJ1_canEncode_9a6ad : Cond.static yJ1_canEncode_9a6ad ∈ zTs := zT_3 (i := 196) (by decide +kernel) rfl
abbrev mJ1_indexOf_4cfef : zMt := (yJ1_indexOf_4cfef, cJ1_indexOf_4cfef, 4, some .int)
theorem kJ1_indexOf_4cfef : zmk mJ1_indexOf_4cfef 4 := ⟨zT_3 (i := 194) (by decide +kernel) rfl, zT_1 (i := 17) (by decide +kernel) rfl, ⟨by decide +kernel, by decide +kernel, by decide +kernel⟩, by decide +kernel, by decide⟩
theorem tJ1_indexOf_4cfef : Cond.static yJ1_indexOf_4cfef ∈ zTs := zT_3 (i := 193) (by decide +kernel) rfl
abbrev mJ1_indexOfChar_4cfef : zMt := (yJ1_indexOfChar_4cfef, cJ1_indexOfChar_4cfef, 6, some .int)
theorem kJ1_indexOfChar_4cfef : zmk mJ1_indexOfChar_4cfef 4 := ⟨zT_3 (i := 204) (by decide +kernel) rfl, zT_1 (i := 17) (by decide +kernel) rfl, ⟨by decide +kernel, by decide +kernel, by decide +kernel⟩, by decide +kernel, by decide⟩
theorem tJ1_indexOfChar_4cfef : Cond.static yJ1_indexOfChar_4cfef ∈ zTs := zT_3 (i := 203) (by decide +kernel) rfl
abbrev mJ3_checkIndex_8e157 : zMt := (yJ3_checkIndex_8e157, cJ3_checkIndex_8e157, 3, some .int)
theorem kJ3_checkIndex_8e157 : zmk mJ3_checkIndex_8e157 3 := ⟨zT_3 (i := 158) (by decide +kernel) rfl, zT_1 (i := 18) (by decide +kernel) rfl, ⟨by decide +kernel, by decide +kernel, by decide +kernel⟩, by decide +kernel, by decide⟩
theorem tJ3_checkIndex_8e157 : Cond.static yJ3_checkIndex_8e157 ∈ zTs := zT_3 (i := 157) (by decide +kernel) rfl
theorem lX8_85 : Cond.methodLink RX8 85 yJ0_length_8abf5 ∈ zTs := zT_3 (i := 130) (by decide +kernel) rfl
theorem lJ0_335 : Cond.methodLink RJ0 335 yJ0_coder_7d493 ∈ zTs := zT_3 (i := 134) (by decide +kernel) rfl
theorem fJ0_38 : Cond.fieldLink RJ0 38 "java/lang/String" "COMPACT_STRINGS" "Z" ∈ zTs := zT_3 (i := 138) (by decide +kernel) rfl
theorem lX8_90 : Cond.methodLink RX8 90 yJ0_charAt_5068e ∈ zTs := zT_3 (i := 140) (by decide +kernel) rfl
theorem lJ0_492 : Cond.methodLink RJ0 492 yJ0_isLatin1_aae02 ∈ zTs := zT_3 (i := 144) (by decide +kernel) rfl
theorem lJ0_495 : Cond.methodLink RJ0 495 yJ1_charAt_3b067 ∈ zTs := zT_3 (i := 148) (by decide +kernel) rfl
theorem lJ1_9 : Cond.methodLink RJ1 9 yJ0_checkIndex_df160 ∈ zTs := zT_3 (i := 151) (by decide +kernel) rfl
theorem fJ0_1053 : Cond.fieldLink RJ0 1053 "jdk/internal/util/Preconditions" "SIOOBE_FORMATTER" "Ljava/util/function/BiFunction;" ∈ zTs := zT_3 (i := 154) (by decide +kernel) rfl
theorem lJ0_1059 : Cond.methodLink RJ0 1059 yJ3_checkIndex_8e157 ∈ zTs := zT_3 (i := 156) (by decide +kernel) rfl
theorem lX8_96 : Cond.methodLink RX8 96 yJ0_indexOf_0f7a4 ∈ zTs := zT_3 (i := 183) (by decide +kernel) rfl
theorem lJ0_633 : Cond.methodLink RJ0 633 yJ0_indexOf_7cf53 ∈ zTs := zT_3 (i := 187) (by decide +kernel) rfl
theorem lJ0_505 : Cond.methodLink RJ0 505 yJ0_length_8abf5 ∈ zTs := zT_3 (i := 191) (by decide +kernel) rfl
theorem lJ0_637 : Cond.methodLink RJ0 637 yJ1_indexOf_4cfef ∈ zTs := zT_3 (i := 192) (by decide +kernel) rfl
theorem lJ1_88 : Cond.methodLink RJ1 88 yJ1_canEncode_9a6ad ∈ zTs := zT_3 (i := 195) (by decide +kernel) rfl
theorem lJ1_95 : Cond.methodLink RJ1 95 yJ1_indexOfChar_4cfef ∈ zTs := zT_3 (i := 202) (by decide +kernel) rfl
theorem fJ0_9 : Cond.fieldLink RJ0 9 "java/lang/String" "value" "[B" ∈ zTs := zT_10 (i := 129) (by decide +kernel) rfl
theorem fJ0_15 : Cond.fieldLink RJ0 15 "java/lang/String" "coder" "B" ∈ zTs := zT_10 (i := 130) (by decide +kernel) rfl
theorem mwJ1_92 : zMw RJ1 92 Lib.Math.max.name Lib.Math.max.code 2 (some .int) := ⟨zT_3 (i := 198) (by decide +kernel) rfl, zT_3 (i := 199) (by decide +kernel) rfl, zT_1 (i := 15) (by decide +kernel) rfl, zT_3 (i := 200) (by decide +kernel) rfl⟩
theorem mwJ1_38 : zMw RJ1 38 Lib.Math.min.name Lib.Math.min.code 2 (some .int) := ⟨zT_3 (i := 201) (by decide +kernel) rfl, zT_3 (i := 112) (by decide +kernel) rfl, zT_1 (i := 15) (by decide +kernel) rfl, zT_3 (i := 113) (by decide +kernel) rfl⟩
def st_w : List Int := [97, 115, 107, 32, 108, 101, 116, 32, 98, 111, 114, 110, 32, 112, 97, 116, 104, 32, 115, 97, 121, 32, 112, 117, 112, 105, 108, 32, 97, 110, 115, 119, 101, 114, 32, 97, 115, 107, 115, 32, 109, 111, 114, 110, 105, 110, 103, 32, 98, 101, 32, 111, 102, 32, 97, 110, 100, 32, 116, 111, 32, 108, 111, 110, 103, 32, 107, 110, 111, 119, 115, 32, 100, 101, 101, 112, 32, 97, 103, 101, 32, 107, 105, 100, 115, 32, 107, 105, 110, 32, 119, 97, 121, 32, 109, 111, 114, 101, 32, 108, 101, 115, 115, 32, 105, 102, 32, 101, 110, 100, 32, 112, 32, 113, 32, 114, 32, 115, 32]
def st_s : List Int := [60, 62, 61, 35, 43, 45, 42, 40, 41, 44, 59, 63, 58]
section ST0
variable {G : zG} {d : Nat} {mt : zMt} {pc : Nat} {ls st stk : List zV} {n n1 : Nat} {M : zM} {Q : zV → zM → Prop}
def st_L (x : Int) : List Int := if x = 10 then st_w else st_s
theorem st_e (x : Int) (hx : x = 10 ∨ x = 11) : zsbyt.getD (x - 10).toNat [] = (st_L x).map Int32.ofInt ∧ zslen.getD (x - 10).toNat 0 = (st_L x).length := by
  rcases hx with rfl | rfl
  · exact ⟨by decide +kernel, by decide +kernel⟩
  · exact ⟨by decide +kernel, by decide +kernel⟩
theorem st_w_r : ∀ c ∈ st_w, 0 ≤ c ∧ c ≤ 127 := by decide +kernel
theorem st_s_r : ∀ c ∈ st_s, 0 ≤ c ∧ c ≤ 127 := by decide +kernel
theorem st_rng (x : Int) : ∀ c ∈ st_L x, 0 ≤ c ∧ c ≤ 127 := by
  unfold st_L; split
  · exact st_w_r
  · exact st_s_r
theorem st_len (x : Int) : (st_L x).length < 1000 := by
  unfold st_L; split <;> decide
def st_c (x i : Int) : Int := (st_L x).getD i.toNat 0
theorem st_crng (x i : Int) : 0 ≤ st_c x i ∧ st_c x i ≤ 127 := by
  unfold st_c
  rw [List.getD_eq_getElem?_getD]
  cases h : (st_L x)[i.toNat]? with
  | none => decide
  | some c => exact st_rng x c (List.mem_of_getElem? h)
theorem st_val (x i : Int) (hx : x = 10 ∨ x = 11) : (zsbyt.getD (x - 10).toNat []).getD i.toNat 0 = Int32.ofInt (st_c x i) := by
  rw [(st_e x hx).1]; unfold st_c
  rw [List.getD_eq_getElem?_getD, List.getElem?_map, List.getD_eq_getElem?_getD]
  cases (st_L x)[i.toNat]? <;> rfl
theorem st_and (c : Int) (h : 0 ≤ c ∧ c ≤ 127) : zand c 255 = c := by
  have q : ∀ k : Fin 128, zand (k.val : Int) 255 = (k.val : Int) := by decide +kernel
  have := q ⟨c.toNat, by omega⟩
  simp only [Int.toNat_of_nonneg h.1] at this
  exact this
theorem st_nar (c : Int) (h : 0 ≤ c ∧ c ≤ 127) : narrow .char (.int (Int32.ofInt c)) = .int (Int32.ofInt c) := by
  have q : ∀ k : Fin 128, narrow .char (.int (Int32.ofInt (k.val : Int))) = .int (Int32.ofInt (k.val : Int)) := by decide +kernel
  have := q ⟨c.toNat, by omega⟩
  simp only [Int.toNat_of_nonneg h.1] at this
  exact this
def zi2b (a : Int) : Int := (Int32.ofInt a).toInt8.toInt32.toInt
theorem z_i2b {a : Int} (hd : decode mt.2.1 pc = .ok (.i2b, 1)) (h : Z G d mt (pc + 1) ls ((0, zi2b a) :: st) n n1 M Q) : Z G d mt pc ls ((0, a) :: st) n n1 M Q :=
  z_stp (fun _ o => z_okc (z_rng _) (z_okt o)) (fun _ _ _ _ _ _ _ _ _ _ _ _ _ _ _ hx hb _ _ _ _ _ k => lv_i2b hx hb hd (z_as _).symm k) h
theorem z_ldcs {idx : Nat} {x : Int} {tx : String} (hd : decode mt.2.1 pc = .ok (.ldc idx, 2)) (hr : ∀ U, zO G U → vk_R mt.1.cls idx tx (G.2.2.2.2.1 x.toNat) U) (h : Z G d mt (pc + 2) ls ((4, x) :: st) n n1 M Q) : Z G d mt pc ls st n n1 M Q :=
  z_stp (fun _ o => z_okc (t := 4) trivial o) (fun _ _ _ _ _ _ _ _ _ _ _ _ _ _ _ hx hb ho hS _ _ _ k => va_ldcS hx hb ho (hr _ hS.2.2.2.2) hd k) h
theorem st_S {U : State} (h : zO G U) {x : Int} (hx : x = 10 ∨ x = 11) : va_O "java/lang/String" (G.2.2.2.2.1 x.toNat) (zA G) U U.heap ∧ va_OF "java/lang/String" "coder" "B" (.int 0) (G.2.2.2.2.1 x.toNat) (zA G) U U.heap ∧ va_OF "java/lang/String" "value" "[B" (.ref (G.2.2.2.2.1 (x + 2).toNat)) (G.2.2.2.2.1 x.toNat) (zA G) U U.heap ∧ va_T .byte (G.2.2.2.2.1 (x + 2).toNat) (st_L x).length (fun j => .int (Int32.ofInt (st_c x j))) (zA G) U U.heap := by
  have h1 := h.2.2.1.1 (x - 10).toNat (by rcases hx with rfl | rfl <;> decide)
  have e1 : 10 + (x - 10).toNat = x.toNat := by omega
  have e2 : 12 + (x - 10).toNat = (x + 2).toNat := by omega
  have e3 : (fun j : Nat => Value.int ((zsbyt.getD (x - 10).toNat []).getD j 0)) = fun j : Nat => Value.int (Int32.ofInt (st_c x j)) := by
    funext j
    have := st_val x j hx
    rw [Int.toNat_natCast] at this
    rw [this]
  simp only [e1, e2, e3, (st_e x hx).2] at h1
  exact h1
theorem z_getv {idx : Nat} {x : Int} (hd : decode mt.2.1 pc = .ok (.getfield idx, 3)) (hx : x = 10 ∨ x = 11) (hl : Cond.fieldLink mt.1.cls idx "java/lang/String" "value" "[B" ∈ zTs) (h : Z G d mt (pc + 3) ls ((4, x + 2) :: st) n n1 M Q) : Z G d mt pc ls ((4, x) :: st) n n1 M Q := by
  refine z_str (fun oM o => z_okc (t := 4) trivial (z_okt o)) (fun p e R s m args below meth c H locs c1 s1 lsC QS hx1 hb hown hZ o hP hS k => ?_) h
  exact vk_getf hx1 hb (st_S hZ.2.2.2.2 hx).2.2.1 hS hown (zS_hts hZ args _ hl) (fun _ h9 => h9) hd k
theorem z_getc {idx : Nat} {x : Int} (hd : decode mt.2.1 pc = .ok (.getfield idx, 3)) (hx : x = 10 ∨ x = 11) (hl : Cond.fieldLink mt.1.cls idx "java/lang/String" "coder" "B" ∈ zTs) (h : Z G d mt (pc + 3) ls ((0, 0) :: st) n n1 M Q) : Z G d mt pc ls ((4, x) :: st) n n1 M Q := by
  refine z_str (fun oM o => z_okc (t := 0) z_in0 (z_okt o)) (fun p e R s m args below meth c H locs c1 s1 lsC QS hx1 hb hown hZ o hP hS k => ?_) h
  exact vk_getf hx1 hb (st_S hZ.2.2.2.2 hx).2.1 hS hown (zS_hts hZ args _ hl) (fun _ h9 => h9) hd k
theorem z_getk {idx : Nat} (hd : decode mt.2.1 pc = .ok (.getstatic idx, 3)) (hl : Cond.fieldLink mt.1.cls idx "java/lang/String" "COMPACT_STRINGS" "Z" ∈ zTs) (h : Z G d mt (pc + 3) ls ((0, 1) :: st) n n1 M Q) : Z G d mt pc ls st n n1 M Q := by
  refine z_str (fun oM o => z_okc (t := 0) ⟨by decide, by decide⟩ o) (fun p e R s m args below meth c H locs c1 s1 lsC QS hx1 hb hown hZ o hP hS k => ?_) h
  exact va_gets hx1 hb hZ.2.2.2.2.2.2.2.2.1 hS hown (zS_hts hZ args _ hl) (fun _ h9 => h9) hd k
theorem z_lens {x : Int} (hd : decode mt.2.1 pc = .ok (.arraylength, 1)) (hx : x = 10 ∨ x = 11) (h : Z G d mt (pc + 1) ls ((0, ((st_L x).length : Int)) :: st) n n1 M Q) : Z G d mt pc ls ((4, x + 2) :: st) n n1 M Q := by
  have hl := st_len x
  refine z_str (fun oM o => z_okc (t := 0) ⟨by omega, by omega⟩ (z_okt o)) (fun p e R s m args below meth c H locs c1 s1 lsC QS hx1 hb hown hZ o hP hS k => ?_) h
  exact va_tlen hx1 hb (st_S hZ.2.2.2.2 hx).2.2.2 hS (Int32.ofInt_eq_ofNat).symm hd k
theorem z_balds {x i : Int} (hd : decode mt.2.1 pc = .ok (.baload, 1)) (hx : x = 10 ∨ x = 11) (hi : 0 ≤ i ∧ i < (st_L x).length) (h : Z G d mt (pc + 1) ls ((0, st_c x i) :: st) n n1 M Q) : Z G d mt pc ls ((0, i) :: (4, x + 2) :: st) n n1 M Q := by
  have hl := st_len x
  have hr := st_crng x i
  refine z_str (fun oM o => z_okc (t := 0) ⟨by omega, by omega⟩ (z_okt (z_okt o))) (fun p e R s m args below meth c H locs c1 s1 lsC QS hx1 hb hown hZ o hP hS k => ?_) h
  refine va_tb hx1 hb (st_S hZ.2.2.2.2 hx).2.2.2 hS (i := Int32.ofInt i) (by rw [vp_in_iff, z_ti ⟨by omega, by omega⟩]; exact hi) rfl hd ?_
  rw [z_clp hi.1 (by omega), Int.toNat_of_nonneg hi.1]
  exact k
/-- a call of a String's method -/
theorem z_callt {mt2 : zMt} {idx : Nat} {b : Int} {as en : List zV} (hd : decode mt.2.1 pc = .ok (.invokevirtual idx, 3)) (hk : Cond.methodLink mt.1.cls idx mt2.1 ∈ zTs) (hm : zmk mt2 as.length) (hi : Cond.instanceMethod mt2.1 ∈ zTs) (hse : Cond.selects mt2.1.cls mt2.1 mt2.1 ∈ zTs)
    (hsk : stk = as.reverse ++ (4, b) :: st) (hb : b = 10 ∨ b = 11) (hcl : mt2.1.cls = "java/lang/String") (hcs : zcs st ≤ 8) (hex : (zex ((4, b) :: as)).length ≤ mt2.2.2.1) (hen : zen ((4, b) :: as) mt2.2.2.1 = en) (hn1 : n ≤ n1)
    (h : Z G d mt2 0 en [] n n M (fun r M' => Z G (d + 1) mt (pc + 3) ls (zpush r st) n n1 M' Q)) : Z G (d + 1) mt pc ls stk n n1 M Q := by
  subst hsk
  subst hen
  intro oM oF oL oS p e R s m args below meth c H locs c1 s1 lsC QS X hS hr hl hll hz hn hc hs hE
  have oS1 : zokL ((4, b) :: st) := fun v hv => oS v (List.mem_append_right _ hv)
  have oA : zokL ((4, b) :: as) := z_okc (t := 4) trivial (fun v hv => oS v (List.mem_append_left _ (List.mem_reverse.mpr hv)))
  refine z_wsz fun hle => ?_
  have hsz := z_low hr hS hz X.2.2.2.2.2.2.2.2 hle
  have hM := z_met hm.2.2.2.1 hex (Nat.le_refl n) oM oF oA h
  have hts := zS_hts X.2.2.2.2.1 args
  have hp : PreV s H mt2.1.cls (G.2.2.2.2.1 b.toNat) (zPc G n M ((4, b) :: as)) (as.map (zc G)) := by
    refine ⟨z_blind, ?_, fun U hU hW => ⟨rfl, zS_move X.2.2.2.2.1 hW (fun q h1 h2 => by rw [hU]; exact hS.2.1 q h1 h2), by rw [hU]; exact hr, by rw [hU]; exact hsz⟩⟩
    rw [hcl]
    obtain ⟨cell, g1, g2, g3, -⟩ := (st_S X.2.2.2.2.1.2.2.2.2 hb).1.kept hS.2.1
    exact ⟨cell, g1, g2, g3⟩
  have hstk : (F0 m pc lsC ((as.reverse ++ (4, b) :: st).map (zc G))).stack = (as.map (zc G)).reverse ++ .ref (G.2.2.2.2.1 b.toNat) :: st.map (zc G) := by
    show (as.reverse ++ (4, b) :: st).map (zc G) = _
    rw [List.map_append, List.map_cons, List.map_reverse]; rfl
  have hfr : ({ frames := d, cells := n - n, slots := zsl n - zsl n, locals := 60 * d } : Room).frames + 1 ≤ R.frames ∧ 8 + (mt2.2.2.1 + 11) + ({ frames := d, cells := n - n, slots := zsl n - zsl n, locals := 60 * d } : Room).locals ≤ R.locals := by
    have h1 := X.2.2.2.2.2.2.1
    have h2 := X.2.2.2.2.2.2.2.1
    have h3 := hm.2.2.2.2
    constructor
    · show d + 1 ≤ R.frames; omega
    · show 8 + (mt2.2.2.1 + 11) + 60 * d ≤ R.locals; omega
  have hsl2 := zsl_mono hn1
  have hrun : va_Run p G.1 e R s m args below meth c H locs c1 s1 (n - n) (zsl n - zsl n) (F0 m pc lsC ((as.reverse ++ (4, b) :: st).map (zc G))) (st.map (zc G)) (zQc G n (fun r M' => Z G (d + 1) mt (pc + 3) ls (zpush r st) n n1 M' Q) (Value.ref (G.2.2.2.2.1 b.toNat) :: as.map (zc G)).toArray) (zA G) :=
    va_runV ⟨X.1, X.2.1, X.2.2.1, X.2.2.2.1, hts⟩ hM ⟨callB_of as.length hts (z_good1 hm) rfl rfl rfl (hts _ hm.2.1) (hts _ hk) hm.2.2.1 hfr, hts _ hi, hts _ hse⟩ hp rfl (by simp) hl.1 hstk (lv_room (by rw [z_cs]; exact hcs)) hd ⟨by omega, by omega⟩
  exact z_back hrun oL (z_okt oS1) X hS hl hll hz (Nat.le_refl n) hn1 hc ⟨Nat.le_refl _, hsl2⟩ hs hE
/-- the world with one more old place -/
def zG2 (G : zG) (q : Nat) : zG := (G.1, G.2.1, G.2.2.1, G.2.2.2.1, (fun k => if k = 14 then q else G.2.2.2.2.1 k), G.2.2.2.2.2.1, G.2.2.2.2.2.2)
theorem zG2_c {q : Nat} {v : zV} (h : v.1 ≠ 4) : zc (zG2 G q) v = zc G v := by
  obtain ⟨t, x⟩ := v
  match t, h with
  | 0, _ => rfl
  | 1, _ => rfl
  | 2, _ => rfl
  | 3, _ => rfl
  | 4, h => exact absurd rfl h
  | _ + 5, _ => rfl
theorem zG2_O {q : Nat} {U : State} (h : zO G U) : zO (zG2 G q) U := by
  have e : ∀ k, k < 14 → (zG2 G q).2.2.2.2.1 k = G.2.2.2.2.1 k := fun k hk => if_neg (by omega)
  obtain ⟨h1, h2, h3, ⟨h4, h5⟩, h6, h7⟩ := h
  refine ⟨fun k hk => ?_, fun k hk => ?_, ⟨fun i hi => ?_, fun i j hi hj q => ?_⟩, ⟨?_, ?_⟩, h6, h7⟩
  · rw [e k (by omega)]; exact h1 k hk
  · rw [e (k + 1) (by omega)]; exact h2 k hk
  · have := h3.1 i hi
    simp only [e (10 + i) (by omega), e (12 + i) (by omega)]
    exact this
  · simp only [e (10 + i) (by omega), e (10 + j) (by omega)] at q
    exact h3.2 i j hi hj q
  · rw [e 10 (by omega)]; exact h4
  · rw [e 11 (by omega)]; exact h5
theorem z_fmt {idx : Nat} (hd : decode mt.2.1 pc = .ok (.getstatic idx, 3)) (hlk : Cond.fieldLink mt.1.cls idx "jdk/internal/util/Preconditions" "SIOOBE_FORMATTER" "Ljava/util/function/BiFunction;" ∈ zTs) (hls : ∀ v ∈ ls, v.1 ≠ 4) (hst : ∀ v ∈ st, v.1 ≠ 4)
    (h0 : Z G d mt (pc + 3) ls ((2, 0) :: st) n n1 M Q) (h1 : ∀ q, Z (zG2 G q) d mt (pc + 3) ls ((4, 14) :: st) n n1 M Q) : Z G d mt pc ls st n n1 M Q := by
  intro oM oF oL oS p e R s m args below meth c H locs c1 s1 lsC QS X hS hr hl hll hz hn hc hs hE
  have hO := X.2.2.2.2.1.2.2.2.2
  rcases hO.2.2.2.2.2 with hq | ⟨t, hq⟩
  · exact va_gets X.1 X.2.1 hq hS X.2.2.2.1 (zS_hts X.2.2.2.2.1 args _ hlk) (fun _ h9 => h9) hd (h0 oM oF oL (z_okc (t := 2) trivial oS) p e R s m args below meth c H locs c1 s1 lsC QS X hS hr hl hll hz hn hc hs hE)
  · refine va_gets X.1 X.2.1 hq hS X.2.2.2.1 (zS_hts X.2.2.2.2.1 args _ hlk) (fun _ h9 => h9) hd ?_
    have hmap : ((4, 14) :: st).map (zc (zG2 G t)) = .ref t :: st.map (zc G) := by
      rw [List.map_cons]
      congr 1
      exact List.map_congr_left (fun v hv => zG2_c (hst v hv))
    obtain ⟨x1, x2, x3, x4, x5, x6, x7, x8, x9⟩ := X
    have hX : zCtx (zG2 G t) d mt p R s m meth c := ⟨x1, x2, x3, x4, ⟨x5.1, x5.2.1, x5.2.2.1, x5.2.2.2.1, zG2_O x5.2.2.2.2⟩, x6, x7, x8, x9⟩
    have hL : zL (zG2 G t) lsC mt.2.2.1 ls := by
      refine ⟨hl.1, hl.2.1, ?_⟩
      rintro ⟨k, w⟩ hw
      obtain ⟨v, hv, h9, rfl⟩ := z_mem_as.mp hw
      rw [zG2_c (hls v (List.mem_of_getElem? hv))]
      exact hl.2.2 _ (z_mem_as.mpr ⟨v, hv, h9, rfl⟩)
    have hE2 : zEnd (zG2 G t) mt n1 Q p e R s m args below meth c QS := by
      intro v M' H' locs' c' s' pc' ls' a1 a2 a3 a4 a5 a6 a7 a8 a9
      obtain ⟨b1, b2, b3⟩ := hE v M' H' locs' c' s' pc' ls' a1 a2 a3 a4 a5 a6 a7 a8 a9
      refine ⟨fun hv hret hdec => ?_, fun hv hret hdec => ?_, fun hv hret hdec => b3 hv hret hdec⟩
      · rw [zG2_c (by rw [hv]; decide)]; exact b1 hv hret hdec
      · rw [zG2_c (by rw [hv]; decide)]; exact b2 hv hret hdec
    have hW := h1 t oM oF oL (z_okc (t := 4) trivial oS) p e R s m args below meth c H locs c1 s1 lsC QS hX hS hr hL hll hz hn hc hs hE2
    rw [hmap] at hW
    exact hW
end ST0
