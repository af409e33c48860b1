section ZN
theorem z_ti {a : Int} (h : zin 0 a) : (Int32.ofInt a).toInt = a := by
  obtain ⟨h1, h2⟩ : -2147483648 ≤ a ∧ a ≤ 2147483647 := h
  rw [Int32.toInt_ofInt]
  show a.bmod 4294967296 = a
  exact Int.bmod_eq_of_le (by omega) (by omega)
theorem z_tl {a : Int} (h : zin 1 a) : (Int64.ofInt a).toInt = a := by
  obtain ⟨h1, h2⟩ : -9223372036854775808 ≤ a ∧ a ≤ 9223372036854775807 := h
  rw [Int64.toInt_ofInt]
  show a.bmod 18446744073709551616 = a
  exact Int.bmod_eq_of_le (by omega) (by omega)
theorem z_ieq {a b : Int} (ha : zin 0 a) (hb : zin 0 b) : Int32.ofInt a = Int32.ofInt b ↔ a = b := by
  rw [← Int32.toInt_inj, z_ti ha, z_ti hb]
theorem z_ilt {a b : Int} (ha : zin 0 a) (hb : zin 0 b) : Int32.ofInt a < Int32.ofInt b ↔ a < b := by
  rw [Int32.lt_iff_toInt_lt, z_ti ha, z_ti hb]
theorem z_ile {a b : Int} (ha : zin 0 a) (hb : zin 0 b) : Int32.ofInt a ≤ Int32.ofInt b ↔ a ≤ b := by
  rw [Int32.le_iff_toInt_le, z_ti ha, z_ti hb]
theorem z_i0 : (0 : Int32) = Int32.ofInt 0 := rfl
theorem z_in0 : zin 0 0 := ⟨by omega, by omega⟩
theorem z_rng (x : Int32) : zin 0 x.toInt := by
  have h1 := Int32.le_toInt x
  have h2 := Int32.toInt_lt x
  exact ⟨by omega, by omega⟩
theorem z_rngl (x : Int64) : zin 1 x.toInt := by
  have h1 := Int64.le_toInt x
  have h2 := Int64.toInt_lt x
  exact ⟨by omega, by omega⟩
def zand (a b : Int) : Int := (Int32.ofInt a &&& Int32.ofInt b).toInt
def zor (a b : Int) : Int := (Int32.ofInt a ||| Int32.ofInt b).toInt
def zxor (a b : Int) : Int := (Int32.ofInt a ^^^ Int32.ofInt b).toInt
def zshl (a b : Int) : Int := (Int32.ofInt a <<< (Int32.ofInt b &&& 31)).toInt
def zshr (a b : Int) : Int := (Int32.ofInt a >>> (Int32.ofInt b &&& 31)).toInt
def zushr (a b : Int) : Int := ((Int32.ofInt a).toUInt32 >>> ((Int32.ofInt b).toUInt32 &&& Int32.toUInt32 31)).toInt32.toInt
def zdiv (a b : Int) : Int := (Int32.ofInt a / Int32.ofInt b).toInt
def zrem (a b : Int) : Int := (Int32.ofInt a - Int32.ofInt a / Int32.ofInt b * Int32.ofInt b).toInt
def zw (a : Int) : Int := (Int32.ofInt a).toInt
def zwl (a : Int) : Int := (Int64.ofInt a).toInt
def zlor (a b : Int) : Int := (Int64.ofInt a ||| Int64.ofInt b).toInt
def zlshl (a b : Int) : Int := (Int64.ofInt a <<< ((Int32.ofInt b).toInt64 &&& 63)).toInt
def zlshr (a b : Int) : Int := (Int64.ofInt a >>> ((Int32.ofInt b).toInt64 &&& 63)).toInt
def zlcmp (a b : Int) : Int := if a < b then -1 else if a = b then 0 else 1
theorem zw_of {a : Int} (h : zin 0 a) : zw a = a := z_ti h
theorem z_as (x : Int32) : Int32.ofInt x.toInt = x := Int32.ofInt_toInt x
theorem z_asl (x : Int64) : Int64.ofInt x.toInt = x := Int64.ofInt_toInt x
end ZN
section ZR
variable {G : zG} {d : Nat} {mt : zMt} {pc : Nat} {ls st : List zV} {n n1 : Nat} {M : zM} {Q : zV → zM → Prop}
theorem z_iconst {k : Int} (hd : decode mt.2.1 pc = .ok (.iconst k, 1)) (hk : zin 0 k) (h : Z G d mt (pc + 1) ls ((0, k) :: st) n n1 M Q) : Z G d mt pc ls st n n1 M Q :=
  z_stp (fun _ o => z_okc hk o) (fun _ _ _ _ _ _ _ _ _ _ _ _ _ _ _ hx hb _ _ _ _ _ k => lv_iconst hx hb hd rfl k) h
theorem z_bipush {k : Int} (hd : decode mt.2.1 pc = .ok (.bipush k, 2)) (hk : (Int8.ofInt k).toInt32 = Int32.ofInt k ∧ zin 0 k) (h : Z G d mt (pc + 2) ls ((0, k) :: st) n n1 M Q) : Z G d mt pc ls st n n1 M Q :=
  z_stp (fun _ o => z_okc hk.2 o) (fun _ _ _ _ _ _ _ _ _ _ _ _ _ _ _ hx hb _ _ _ _ _ k => lv_bipush hx hb hd hk.1 k) h
theorem z_sipush {k : Int} (hd : decode mt.2.1 pc = .ok (.sipush k, 3)) (hk : (Int16.ofInt k).toInt32 = Int32.ofInt k ∧ zin 0 k) (h : Z G d mt (pc + 3) ls ((0, k) :: st) n n1 M Q) : Z G d mt pc ls st n n1 M Q :=
  z_stp (fun _ o => z_okc hk.2 o) (fun _ _ _ _ _ _ _ _ _ _ _ _ _ _ _ hx hb _ _ _ _ _ k => lv_sipush hx hb hd hk.1 k) h
theorem z_lconst {j : Fin 2} {k : Int} (hd : decode mt.2.1 pc = .ok (.lconst j, 1)) (hk : Int64.ofNat (j : Nat) = Int64.ofInt k ∧ zin 1 k) (h : Z G d mt (pc + 1) ls ((1, k) :: st) n n1 M Q) : Z G d mt pc ls st n n1 M Q :=
  z_stp (fun _ o => z_okc hk.2 o) (fun _ _ _ _ _ _ _ _ _ _ _ _ _ _ _ hx hb _ _ _ _ _ k => lv_lconst hx hb hd hk.1 k) h
theorem z_ldc {i : Nat} {v : Int32} {k : Int} (hd : decode mt.2.1 pc = .ok (.ldc i, 2)) (hk : Int32.ofInt k = v ∧ zin 0 k) (hw : Cond.constant mt.1.cls i v ∈ zTs) (h : Z G d mt (pc + 2) ls ((0, k) :: st) n n1 M Q) : Z G d mt pc ls st n n1 M Q :=
  z_stp (fun _ o => z_okc hk.2 o) (fun _ _ _ _ _ args _ _ _ _ _ _ _ _ _ hx hb ho hS _ _ _ k => by obtain ⟨rfl, -⟩ := hk; exact lv_ldc hx hb ho (zS_hts hS args _ hw) hd k) h
theorem z_ldcw {i : Nat} {v : Int32} {k : Int} (hd : decode mt.2.1 pc = .ok (.ldc_w i, 3)) (hk : Int32.ofInt k = v ∧ zin 0 k) (hw : Cond.constant mt.1.cls i v ∈ zTs) (h : Z G d mt (pc + 3) ls ((0, k) :: st) n n1 M Q) : Z G d mt pc ls st n n1 M Q :=
  z_stp (fun _ o => z_okc hk.2 o) (fun _ _ _ _ _ args _ _ _ _ _ _ _ _ _ hx hb ho hS _ _ _ k => by obtain ⟨rfl, -⟩ := hk; exact lv_ldcw hx hb ho (zS_hts hS args _ hw) hd k) h
theorem z_ldc2 {i : Nat} {v : Int64} {k : Int} (hd : decode mt.2.1 pc = .ok (.ldc2_w i, 3)) (hk : Int64.ofInt k = v ∧ zin 1 k) (hw : Cond.constantLong mt.1.cls i v ∈ zTs) (h : Z G d mt (pc + 3) ls ((1, k) :: st) n n1 M Q) : Z G d mt pc ls st n n1 M Q :=
  z_stp (fun _ o => z_okc hk.2 o) (fun _ _ _ _ _ args _ _ _ _ _ _ _ _ _ hx hb ho hS _ _ _ k => by obtain ⟨rfl, -⟩ := hk; exact lv_ldc2 hx hb ho (zS_hts hS args _ hw) hd k) h
-- loads
theorem z_iload {i : Nat} {x : Int} (hd : decode mt.2.1 pc = .ok (.iload i, 2)) (hl : ls[i]? = some (0, x)) (h : Z G d mt (pc + 2) ls ((0, x) :: st) n n1 M Q) : Z G d mt pc ls st n n1 M Q :=
  z_stp (fun o o' => z_okc (z_okat o hl) o') (fun _ _ _ _ _ _ _ _ _ _ _ _ _ _ _ hx hb _ _ hL _ _ k => lv_iload hx hb hd (z_lat hL hl (show (0 : Nat) ≠ 9 by decide)) k) h
theorem z_iloadn {j : Fin 4} {x : Int} (hd : decode mt.2.1 pc = .ok (.iload_n j, 1)) (hl : ls[(j : Nat)]? = some (0, x)) (h : Z G d mt (pc + 1) ls ((0, x) :: st) n n1 M Q) : Z G d mt pc ls st n n1 M Q :=
  z_stp (fun o o' => z_okc (z_okat o hl) o') (fun _ _ _ _ _ _ _ _ _ _ _ _ _ _ _ hx hb _ _ hL _ _ k => lv_iload_n hx hb hd rfl (z_lat hL hl (show (0 : Nat) ≠ 9 by decide)) k) h
theorem z_lload {i : Nat} {x : Int} (hd : decode mt.2.1 pc = .ok (.lload i, 2)) (hl : ls[i]? = some (1, x)) (h : Z G d mt (pc + 2) ls ((1, x) :: st) n n1 M Q) : Z G d mt pc ls st n n1 M Q :=
  z_stp (fun o o' => z_okc (z_okat o hl) o') (fun _ _ _ _ _ _ _ _ _ _ _ _ _ _ _ hx hb _ _ hL _ _ k => lv_lload hx hb hd (z_lat hL hl (show (1 : Nat) ≠ 9 by decide)) k) h
theorem z_lloadn {j : Fin 4} {x : Int} (hd : decode mt.2.1 pc = .ok (.lload_n j, 1)) (hl : ls[(j : Nat)]? = some (1, x)) (h : Z G d mt (pc + 1) ls ((1, x) :: st) n n1 M Q) : Z G d mt pc ls st n n1 M Q :=
  z_stp (fun o o' => z_okc (z_okat o hl) o') (fun _ _ _ _ _ _ _ _ _ _ _ _ _ _ _ hx hb _ _ hL _ _ k => lv_lload_n hx hb hd rfl (z_lat hL hl (show (1 : Nat) ≠ 9 by decide)) k) h
theorem z_rc (G : zG) {t : Nat} (x : Int) (ht : t = 2 ∨ t = 4) : zc G (t, x) = .null ∨ ∃ a, zc G (t, x) = .ref a := by
  rcases ht with rfl | rfl
  · show zref _ x = _ ∨ ∃ a, zref _ x = _
    unfold zref; split
    · exact Or.inl rfl
    · exact Or.inr ⟨_, rfl⟩
  · exact Or.inr ⟨_, rfl⟩
theorem z_aload {i t : Nat} {x : Int} (hd : decode mt.2.1 pc = .ok (.aload i, 2)) (hl : ls[i]? = some (t, x)) (ht : t = 2 ∨ t = 4) (h : Z G d mt (pc + 2) ls ((t, x) :: st) n n1 M Q) : Z G d mt pc ls st n n1 M Q :=
  z_stp (fun o o' => z_okc (z_okat o hl) o') (fun _ _ _ _ _ _ _ _ _ _ _ _ _ _ _ hx hb _ _ hL _ _ k => by
    have hl' := z_lat hL hl (show t ≠ 9 by omega)
    rw [List.map_cons] at k
    rcases z_rc G x ht with e | ⟨a, e⟩ <;> rw [e] at hl' k
    · exact lv_aloadN hx hb hd hl' k
    · exact lv_aload hx hb hd hl' k) h
theorem z_aloadn {j : Fin 4} {t : Nat} {x : Int} (hd : decode mt.2.1 pc = .ok (.aload_n j, 1)) (hl : ls[(j : Nat)]? = some (t, x)) (ht : t = 2 ∨ t = 4) (h : Z G d mt (pc + 1) ls ((t, x) :: st) n n1 M Q) : Z G d mt pc ls st n n1 M Q :=
  z_stp (fun o o' => z_okc (z_okat o hl) o') (fun _ _ _ _ _ _ _ _ _ _ _ _ _ _ _ hx hb _ _ hL _ _ k => by
    have hl' := z_lat hL hl (show t ≠ 9 by omega)
    rw [List.map_cons] at k
    rcases z_rc G x ht with e | ⟨a, e⟩ <;> rw [e] at hl' k
    · exact lv_aload_nN hx hb hd rfl hl' k
    · exact lv_aload_n hx hb hd rfl hl' k) h
-- stores
theorem z_okt {v : zV} {l : List zV} (h : zokL (v :: l)) : zokL l := fun u hu => h u (List.mem_cons_of_mem _ hu)
theorem z_okh {v : zV} {l : List zV} (h : zokL (v :: l)) : zin v.1 v.2 := h v List.mem_cons_self
theorem z_stlt {l : List zV} {i : Nat} (h : zst l i = true) : i < l.length := by
  unfold zst at h; simp only [Bool.and_eq_true, decide_eq_true_eq] at h; exact h.1
theorem z_istore {i : Nat} {x : Int} (hd : decode mt.2.1 pc = .ok (.istore i, 2)) (hs : zst ls i = true) (h : Z G d mt (pc + 2) (ls.set i (0, x)) st n n1 M Q) : Z G d mt pc ls ((0, x) :: st) n n1 M Q :=
  z_stl (fun o o' => ⟨z_oks (z_okh o') o, z_okt o'⟩) (by simp) (fun _ _ _ _ _ _ _ _ _ _ _ _ _ _ _ hx hb hll hL _ _ k => lv_istore hx hb hd hL (by rw [← hll]; exact z_stlt hs) rfl (fun l' h' => k l' (z_store1 (v := (0, x)) hs h'))) h
theorem z_istoren {j : Fin 4} {x : Int} (hd : decode mt.2.1 pc = .ok (.istore_n j, 1)) (hs : zst ls j = true) (h : Z G d mt (pc + 1) (ls.set j (0, x)) st n n1 M Q) : Z G d mt pc ls ((0, x) :: st) n n1 M Q :=
  z_stl (fun o o' => ⟨z_oks (z_okh o') o, z_okt o'⟩) (by simp) (fun _ _ _ _ _ _ _ _ _ _ _ _ _ _ _ hx hb hll hL _ _ k => lv_istore_n hx hb hd rfl hL (by rw [← hll]; exact z_stlt hs) rfl (fun l' h' => k l' (z_store1 (v := (0, x)) hs h'))) h
theorem z_lstore {i : Nat} {x : Int} (hd : decode mt.2.1 pc = .ok (.lstore i, 2)) (hs : zst ls i = true) (hi : i + 1 < ls.length) (h : Z G d mt (pc + 2) ((ls.set i (1, x)).set (i + 1) (9, 0)) st n n1 M Q) : Z G d mt pc ls ((1, x) :: st) n n1 M Q :=
  z_stl (fun o o' => ⟨z_oks (u := (9, 0)) trivial (z_oks (z_okh o') o), z_okt o'⟩) (by simp) (fun _ _ _ _ _ _ _ _ _ _ _ _ _ _ _ hx hb hll hL _ _ k => lv_lstore hx hb hd hL (by rw [← hll]; exact hi) rfl (fun l' h' => k l' (z_store2 (v := (1, x)) hs hi h'))) h
theorem z_lstoren {j : Fin 4} {x : Int} (hd : decode mt.2.1 pc = .ok (.lstore_n j, 1)) (hs : zst ls j = true) (hi : (j : Nat) + 1 < ls.length) (h : Z G d mt (pc + 1) ((ls.set j (1, x)).set ((j : Nat) + 1) (9, 0)) st n n1 M Q) : Z G d mt pc ls ((1, x) :: st) n n1 M Q :=
  z_stl (fun o o' => ⟨z_oks (u := (9, 0)) trivial (z_oks (z_okh o') o), z_okt o'⟩) (by simp) (fun _ _ _ _ _ _ _ _ _ _ _ _ _ _ _ hx hb hll hL _ _ k => lv_lstore_n hx hb hd rfl hL (by rw [← hll]; exact hi) rfl (fun l' h' => k l' (z_store2 (v := (1, x)) hs hi h'))) h
theorem z_astore {i t : Nat} {x : Int} (hd : decode mt.2.1 pc = .ok (.astore i, 2)) (hs : zst ls i = true) (ht : t = 2 ∨ t = 4) (h : Z G d mt (pc + 2) (ls.set i (t, x)) st n n1 M Q) : Z G d mt pc ls ((t, x) :: st) n n1 M Q :=
  z_stl (fun o o' => ⟨z_oks (z_okh o') o, z_okt o'⟩) (by simp) (fun _ _ _ _ _ _ _ _ _ _ _ _ _ _ _ hx hb hll hL _ _ k => by
    rw [List.map_cons]
    rcases z_rc G x ht with e | ⟨a, e⟩ <;> rw [e]
    · exact lv_astoreN hx hb hd hL (by rw [← hll]; exact z_stlt hs) rfl (fun l' h' => k l' (z_store1 (v := (t, x)) hs (by rw [e]; exact h')))
    · exact lv_astore hx hb hd hL (by rw [← hll]; exact z_stlt hs) rfl (fun l' h' => k l' (z_store1 (v := (t, x)) hs (by rw [e]; exact h')))) h
theorem z_astoren {j : Fin 4} {t : Nat} {x : Int} (hd : decode mt.2.1 pc = .ok (.astore_n j, 1)) (hs : zst ls j = true) (ht : t = 2 ∨ t = 4) (h : Z G d mt (pc + 1) (ls.set j (t, x)) st n n1 M Q) : Z G d mt pc ls ((t, x) :: st) n n1 M Q :=
  z_stl (fun o o' => ⟨z_oks (z_okh o') o, z_okt o'⟩) (by simp) (fun _ _ _ _ _ _ _ _ _ _ _ _ _ _ _ hx hb hll hL _ _ k => by
    rw [List.map_cons]
    rcases z_rc G x ht with e | ⟨a, e⟩ <;> rw [e]
    · exact lv_astore_nN hx hb hd rfl hL (by rw [← hll]; exact z_stlt hs) rfl (fun l' h' => k l' (z_store1 (v := (t, x)) hs (by rw [e]; exact h')))
    · exact lv_astore_n hx hb hd rfl hL (by rw [← hll]; exact z_stlt hs) rfl (fun l' h' => k l' (z_store1 (v := (t, x)) hs (by rw [e]; exact h')))) h
theorem z_iinc {i : Nat} {k x : Int} (hd : decode mt.2.1 pc = .ok (.iinc i k, 3)) (hl : ls[i]? = some (0, x)) (hs : zst ls i = true) (hr : -2147483648 ≤ x + k ∧ x + k ≤ 2147483647) (h : Z G d mt (pc + 3) (ls.set i (0, x + k)) st n n1 M Q) : Z G d mt pc ls st n n1 M Q :=
  z_stl (fun o o' => ⟨z_oks (u := (0, x + k)) hr o, o'⟩) (by simp) (fun _ _ _ _ _ _ _ _ _ _ _ _ _ _ _ hx hb hll hL _ _ k2 => by
    obtain ⟨q, hq⟩ := List.getElem?_of_mem (z_mem_as.mpr ⟨(0, x), hl, (show (0 : Nat) ≠ 9 by decide), rfl⟩ : (i, zc G (0, x)) ∈ zas G ls)
    exact lv_iinc hx hb hd hL hq (Int32.ofInt_add x k).symm (by rw [← hll]; exact z_stlt hs) rfl (fun l' h' => k2 l' (z_store1 (v := (0, x + k)) hs h'))) h
-- arithmetic
theorem z_iadd {a b : Int} (hd : decode mt.2.1 pc = .ok (.iadd, 1)) (hr : -2147483648 ≤ a + b ∧ a + b ≤ 2147483647) (h : Z G d mt (pc + 1) ls ((0, a + b) :: st) n n1 M Q) : Z G d mt pc ls ((0, b) :: (0, a) :: st) n n1 M Q :=
  z_stp (fun _ o => z_okc (t := 0) hr (z_okt (z_okt o))) (fun _ _ _ _ _ _ _ _ _ _ _ _ _ _ _ hx hb _ _ _ _ _ k => lv_iadd hx hb hd (by rw [← Int32.ofInt_add]; exact k)) h
theorem z_isub {a b : Int} (hd : decode mt.2.1 pc = .ok (.isub, 1)) (hr : -2147483648 ≤ a - b ∧ a - b ≤ 2147483647) (h : Z G d mt (pc + 1) ls ((0, a - b) :: st) n n1 M Q) : Z G d mt pc ls ((0, b) :: (0, a) :: st) n n1 M Q :=
  z_stp (fun _ o => z_okc (t := 0) hr (z_okt (z_okt o))) (fun _ _ _ _ _ _ _ _ _ _ _ _ _ _ _ hx hb _ _ _ _ _ k => lv_isub hx hb hd (by rw [← Int32.ofInt_sub]; exact k)) h
theorem z_imul {a b : Int} (hd : decode mt.2.1 pc = .ok (.imul, 1)) (hr : -2147483648 ≤ a * b ∧ a * b ≤ 2147483647) (h : Z G d mt (pc + 1) ls ((0, a * b) :: st) n n1 M Q) : Z G d mt pc ls ((0, b) :: (0, a) :: st) n n1 M Q :=
  z_stp (fun _ o => z_okc (t := 0) hr (z_okt (z_okt o))) (fun _ _ _ _ _ _ _ _ _ _ _ _ _ _ _ hx hb _ _ _ _ _ k => lv_imul hx hb hd (by rw [← Int32.ofInt_mul]; exact k)) h
theorem z_ineg {a : Int} (hd : decode mt.2.1 pc = .ok (.ineg, 1)) (hr : -2147483648 ≤ -a ∧ -a ≤ 2147483647) (h : Z G d mt (pc + 1) ls ((0, -a) :: st) n n1 M Q) : Z G d mt pc ls ((0, a) :: st) n n1 M Q :=
  z_stp (fun _ o => z_okc (t := 0) hr (z_okt o)) (fun _ _ _ _ _ _ _ _ _ _ _ _ _ _ _ hx hb _ _ _ _ _ k => lv_ineg hx hb hd (by rw [← Int32.ofInt_neg]; exact k)) h
theorem z_iand {a b : Int} (hd : decode mt.2.1 pc = .ok (.iand, 1)) (h : Z G d mt (pc + 1) ls ((0, zand a b) :: st) n n1 M Q) : Z G d mt pc ls ((0, b) :: (0, a) :: st) n n1 M Q :=
  z_stp (fun _ o => z_okc (z_rng _) (z_okt (z_okt o))) (fun _ _ _ _ _ _ _ _ _ _ _ _ _ _ _ hx hb _ _ _ _ _ k => lv_iand hx hb hd (by rw [← z_as (Int32.ofInt a &&& Int32.ofInt b)]; exact k)) h
theorem z_ior {a b : Int} (hd : decode mt.2.1 pc = .ok (.ior, 1)) (h : Z G d mt (pc + 1) ls ((0, zor a b) :: st) n n1 M Q) : Z G d mt pc ls ((0, b) :: (0, a) :: st) n n1 M Q :=
  z_stp (fun _ o => z_okc (z_rng _) (z_okt (z_okt o))) (fun _ _ _ _ _ _ _ _ _ _ _ _ _ _ _ hx hb _ _ _ _ _ k => lv_ior hx hb hd (by rw [← z_as (Int32.ofInt a ||| Int32.ofInt b)]; exact k)) h
theorem z_ixor {a b : Int} (hd : decode mt.2.1 pc = .ok (.ixor, 1)) (h : Z G d mt (pc + 1) ls ((0, zxor a b) :: st) n n1 M Q) : Z G d mt pc ls ((0, b) :: (0, a) :: st) n n1 M Q :=
  z_stp (fun _ o => z_okc (z_rng _) (z_okt (z_okt o))) (fun _ _ _ _ _ _ _ _ _ _ _ _ _ _ _ hx hb _ _ _ _ _ k => lv_ixor hx hb hd (by rw [← z_as (Int32.ofInt a ^^^ Int32.ofInt b)]; exact k)) h
theorem z_ishl {a b : Int} (hd : decode mt.2.1 pc = .ok (.ishl, 1)) (h : Z G d mt (pc + 1) ls ((0, zshl a b) :: st) n n1 M Q) : Z G d mt pc ls ((0, b) :: (0, a) :: st) n n1 M Q :=
  z_stp (fun _ o => z_okc (z_rng _) (z_okt (z_okt o))) (fun _ _ _ _ _ _ _ _ _ _ _ _ _ _ _ hx hb _ _ _ _ _ k => lv_ishl hx hb hd (by rw [← z_as (Int32.ofInt a <<< (Int32.ofInt b &&& 31))]; exact k)) h
theorem z_ishr {a b : Int} (hd : decode mt.2.1 pc = .ok (.ishr, 1)) (h : Z G d mt (pc + 1) ls ((0, zshr a b) :: st) n n1 M Q) : Z G d mt pc ls ((0, b) :: (0, a) :: st) n n1 M Q :=
  z_stp (fun _ o => z_okc (z_rng _) (z_okt (z_okt o))) (fun _ _ _ _ _ _ _ _ _ _ _ _ _ _ _ hx hb _ _ _ _ _ k => lv_ishr hx hb hd (by rw [← z_as (Int32.ofInt a >>> (Int32.ofInt b &&& 31))]; exact k)) h
theorem z_iushr {a b : Int} (hd : decode mt.2.1 pc = .ok (.iushr, 1)) (h : Z G d mt (pc + 1) ls ((0, zushr a b) :: st) n n1 M Q) : Z G d mt pc ls ((0, b) :: (0, a) :: st) n n1 M Q :=
  z_stp (fun _ o => z_okc (z_rng _) (z_okt (z_okt o))) (fun _ _ _ _ _ _ _ _ _ _ _ _ _ _ _ hx hb _ _ _ _ _ k => lv_iushr hx hb hd (z_as _).symm k) h
theorem z_idiv {a b : Int} (hd : decode mt.2.1 pc = .ok (.idiv, 1)) (hne : ¬ b = 0) (h : Z G d mt (pc + 1) ls ((0, zdiv a b) :: st) n n1 M Q) : Z G d mt pc ls ((0, b) :: (0, a) :: st) n n1 M Q :=
  z_stp (fun _ o => z_okc (z_rng _) (z_okt (z_okt o))) (fun _ _ _ _ _ _ _ _ _ _ _ _ _ _ _ hx hb _ _ _ _ o k => lv_idiv hx hb hd (fun q => hne ((z_ieq (z_okh o) z_in0).mp q)) (by rw [← z_as (Int32.ofInt a / Int32.ofInt b)]; exact k)) h
theorem z_irem {a b : Int} (hd : decode mt.2.1 pc = .ok (.irem, 1)) (hne : ¬ b = 0) (h : Z G d mt (pc + 1) ls ((0, zrem a b) :: st) n n1 M Q) : Z G d mt pc ls ((0, b) :: (0, a) :: st) n n1 M Q :=
  z_stp (fun _ o => z_okc (z_rng _) (z_okt (z_okt o))) (fun _ _ _ _ _ _ _ _ _ _ _ _ _ _ _ hx hb _ _ _ _ o k => lv_irem hx hb hd (fun q => hne ((z_ieq (z_okh o) z_in0).mp q)) (by rw [← z_as (Int32.ofInt a - Int32.ofInt a / Int32.ofInt b * Int32.ofInt b)]; exact k)) h
theorem z_ladd {a b : Int} (hd : decode mt.2.1 pc = .ok (.ladd, 1)) (hr : zin 1 (a + b)) (h : Z G d mt (pc + 1) ls ((1, a + b) :: st) n n1 M Q) : Z G d mt pc ls ((1, b) :: (1, a) :: st) n n1 M Q :=
  z_stp (fun _ o => z_okc hr (z_okt (z_okt o))) (fun _ _ _ _ _ _ _ _ _ _ _ _ _ _ _ hx hb _ _ _ _ _ k => lv_ladd hx hb hd (by rw [← Int64.ofInt_add]; exact k)) h
theorem z_lsub {a b : Int} (hd : decode mt.2.1 pc = .ok (.lsub, 1)) (hr : zin 1 (a - b)) (h : Z G d mt (pc + 1) ls ((1, a - b) :: st) n n1 M Q) : Z G d mt pc ls ((1, b) :: (1, a) :: st) n n1 M Q :=
  z_stp (fun _ o => z_okc hr (z_okt (z_okt o))) (fun _ _ _ _ _ _ _ _ _ _ _ _ _ _ _ hx hb _ _ _ _ _ k => lv_lsub hx hb hd (by rw [← Int64.ofInt_sub]; exact k)) h
theorem z_lmul {a b : Int} (hd : decode mt.2.1 pc = .ok (.lmul, 1)) (hr : zin 1 (a * b)) (h : Z G d mt (pc + 1) ls ((1, a * b) :: st) n n1 M Q) : Z G d mt pc ls ((1, b) :: (1, a) :: st) n n1 M Q :=
  z_stp (fun _ o => z_okc hr (z_okt (z_okt o))) (fun _ _ _ _ _ _ _ _ _ _ _ _ _ _ _ hx hb _ _ _ _ _ k => lv_lmul hx hb hd (by rw [← Int64.ofInt_mul]; exact k)) h
theorem z_lor {a b : Int} (hd : decode mt.2.1 pc = .ok (.lor, 1)) (h : Z G d mt (pc + 1) ls ((1, zlor a b) :: st) n n1 M Q) : Z G d mt pc ls ((1, b) :: (1, a) :: st) n n1 M Q :=
  z_stp (fun _ o => z_okc (z_rngl _) (z_okt (z_okt o))) (fun _ _ _ _ _ _ _ _ _ _ _ _ _ _ _ hx hb _ _ _ _ _ k => lv_lor hx hb hd (by rw [← z_asl (Int64.ofInt a ||| Int64.ofInt b)]; exact k)) h
theorem z_lshl {a b : Int} (hd : decode mt.2.1 pc = .ok (.lshl, 1)) (h : Z G d mt (pc + 1) ls ((1, zlshl a b) :: st) n n1 M Q) : Z G d mt pc ls ((0, b) :: (1, a) :: st) n n1 M Q :=
  z_stp (fun _ o => z_okc (z_rngl _) (z_okt (z_okt o))) (fun _ _ _ _ _ _ _ _ _ _ _ _ _ _ _ hx hb _ _ _ _ _ k => lv_lshl hx hb hd (z_asl _).symm k) h
theorem z_lshr {a b : Int} (hd : decode mt.2.1 pc = .ok (.lshr, 1)) (h : Z G d mt (pc + 1) ls ((1, zlshr a b) :: st) n n1 M Q) : Z G d mt pc ls ((0, b) :: (1, a) :: st) n n1 M Q :=
  z_stp (fun _ o => z_okc (z_rngl _) (z_okt (z_okt o))) (fun _ _ _ _ _ _ _ _ _ _ _ _ _ _ _ hx hb _ _ _ _ _ k => lv_lshr hx hb hd (z_asl _).symm k) h
theorem z_i2l {a : Int} (hd : decode mt.2.1 pc = .ok (.i2l, 1)) (h : Z G d mt (pc + 1) ls ((1, a) :: st) n n1 M Q) : Z G d mt pc ls ((0, a) :: st) n n1 M Q :=
  z_stp (fun _ o => z_okc (by obtain ⟨h1, h2⟩ : -2147483648 ≤ a ∧ a ≤ 2147483647 := z_okh o; exact ⟨by omega, by omega⟩) (z_okt o)) (fun _ _ _ _ _ _ _ _ _ _ _ _ _ _ _ hx hb _ _ _ _ o k => lv_i2l hx hb hd (by
    have h0 : zin 0 a := z_okh o
    have h1 : zin 1 a := by obtain ⟨h1, h2⟩ : -2147483648 ≤ a ∧ a ≤ 2147483647 := h0; exact ⟨by omega, by omega⟩
    rw [← Int64.toInt_inj, z_tl h1, Int32.toInt_toInt64, z_ti h0]) k) h
theorem z_l2i {a : Int} (hd : decode mt.2.1 pc = .ok (.l2i, 1)) (h : Z G d mt (pc + 1) ls ((0, zw a) :: st) n n1 M Q) : Z G d mt pc ls ((1, a) :: st) n n1 M Q :=
  z_stp (fun _ o => z_okc (z_rng _) (z_okt o)) (fun _ _ _ _ _ _ _ _ _ _ _ _ _ _ _ hx hb _ _ _ _ o k => lv_l2i hx hb hd (by
    have h1 : zin 1 a := z_okh o
    rw [z_as, ← Int32.toInt_inj, Int64.toInt_toInt32, z_tl h1, Int32.toInt_ofInt]) k) h
theorem z_i2c {a : Int} (hd : decode mt.2.1 pc = .ok (.i2c, 1)) (ha : 0 ≤ a ∧ a < 65536) (h : Z G d mt (pc + 1) ls ((0, a) :: st) n n1 M Q) : Z G d mt pc ls ((0, a) :: st) n n1 M Q :=
  z_stp (fun _ o => o) (fun _ _ _ _ _ _ _ _ _ _ _ _ _ _ _ hx hb _ _ _ _ o k => lv_i2c hx hb hd (by
    obtain ⟨j, rfl⟩ : ∃ j : Nat, a = (j : Int) := ⟨a.toNat, by omega⟩
    rw [show Int32.ofInt (j : Int) = nI j from Int32.ofInt_eq_ofNat, pk_char, pk_tn (by omega), Nat.mod_eq_of_lt (by omega)]) k) h
theorem z_lcmp {a b : Int} (hd : decode mt.2.1 pc = .ok (.lcmp, 1)) (h : Z G d mt (pc + 1) ls ((0, zlcmp a b) :: st) n n1 M Q) : Z G d mt pc ls ((1, b) :: (1, a) :: st) n n1 M Q :=
  z_stp (fun _ o => z_okc (by unfold zlcmp; split; exact ⟨by omega, by omega⟩; split; exact ⟨by omega, by omega⟩; exact ⟨by omega, by omega⟩) (z_okt (z_okt o))) (fun _ _ _ _ _ _ _ _ _ _ _ _ _ _ _ hx hb _ _ _ _ o k => W.lcmp hx hb hd (by
    have hb' : zin 1 b := z_okh o
    have ha' : zin 1 a := z_okh (z_okt o)
    have e : lg_cmp (Int64.ofInt a) (Int64.ofInt b) = Int32.ofInt (zlcmp a b) := by
      have el : Int64.ofInt a < Int64.ofInt b ↔ a < b := by rw [Int64.lt_iff_toInt_lt, z_tl ha', z_tl hb']
      have eg : Int64.ofInt b < Int64.ofInt a ↔ b < a := by rw [Int64.lt_iff_toInt_lt, z_tl ha', z_tl hb']
      have ee : Int64.ofInt a = Int64.ofInt b ↔ a = b := by rw [← Int64.toInt_inj, z_tl ha', z_tl hb']
      unfold lg_cmp zlcmp
      rcases Int.lt_trichotomy a b with q | q | q
      · have q1 : ¬ b < a := by omega
        have q2 : ¬ a = b := by omega
        simp [el, eg, ee, q, q1, q2]
      · subst q; simp
      · have q1 : ¬ a < b := by omega
        have q2 : ¬ a = b := by omega
        simp [el, eg, ee, q, q1, q2]
    rw [e]; exact k)) h
-- the stack
theorem z_dup {v : zV} (hd : decode mt.2.1 pc = .ok (.dup, 1)) (hv : v.1 ≠ 1) (h : Z G d mt (pc + 1) ls (v :: v :: st) n n1 M Q) : Z G d mt pc ls (v :: st) n n1 M Q :=
  z_stp (fun _ o => z_okc (z_okh o) o) (fun _ _ _ _ _ _ _ _ _ _ _ _ _ _ _ hx hb _ _ _ _ _ k => lv_dup hx hb hd (z_cat hv) k) h
theorem z_pop {v : zV} (hd : decode mt.2.1 pc = .ok (.pop, 1)) (hv : v.1 ≠ 1) (h : Z G d mt (pc + 1) ls st n n1 M Q) : Z G d mt pc ls (v :: st) n n1 M Q :=
  z_stp (fun _ o => z_okt o) (fun _ _ _ _ _ _ _ _ _ _ _ _ _ _ _ hx hb _ _ _ _ _ k => lv_pop hx hb hd (z_cat hv) k) h
theorem z_dup2 {u v : zV} (hd : decode mt.2.1 pc = .ok (.dup2, 1)) (hu : u.1 ≠ 1) (hv : v.1 ≠ 1) (h : Z G d mt (pc + 1) ls (u :: v :: u :: v :: st) n n1 M Q) : Z G d mt pc ls (u :: v :: st) n n1 M Q :=
  z_stp (fun _ o => z_okc (z_okh o) (z_okc (z_okh (z_okt o)) o)) (fun _ _ _ _ _ _ _ _ _ _ _ _ _ _ _ hx hb _ _ _ _ _ k => lv_dup2_11 hx hb hd (z_cat hu) (z_cat hv) k) h
theorem z_dup2l {x : Int} (hd : decode mt.2.1 pc = .ok (.dup2, 1)) (h : Z G d mt (pc + 1) ls ((1, x) :: (1, x) :: st) n n1 M Q) : Z G d mt pc ls ((1, x) :: st) n n1 M Q :=
  z_stp (fun _ o => z_okc (z_okh o) o) (fun _ _ _ _ _ _ _ _ _ _ _ _ _ _ _ hx hb _ _ _ _ _ k => lv_dup2_2 hx hb hd rfl k) h
theorem z_goto {off : Int} {tgt : Nat} (hd : decode mt.2.1 pc = .ok (.goto off, 3)) (ht : (pc : Int) + off = (tgt : Int)) (h : Z G d mt tgt ls st n n1 M Q) : Z G d mt pc ls st n n1 M Q :=
  z_stp (fun _ o => o) (fun _ _ _ _ _ _ _ _ _ _ _ _ _ _ _ hx hb _ _ _ _ _ k => lv_goto hx hb hd ht k) h
/-- a branch -/
theorem z_br {P P' : Prop} {pt pf : Nat} {st' : List zV} (hok : zokL st → zokL st')
    (hw : ∀ (p : Program) (e : Env) (R : Room) (s : State) (m : MethodId) (args : Array Value) (below : List Frame) (meth : Method) (c : Code) (H : Heap) (locs : List Loc) (c1 s1 : Nat) (lsC : Array Slot) (QS : State → Prop), p.tables.exec = Jvm.exec → c.code = mt.2.1 → zokL st →
      (P → W p G.1 e R s m args below meth c H locs c1 s1 QS (F0 m pt lsC (st'.map (zc G)))) → (P' → W p G.1 e R s m args below meth c H locs c1 s1 QS (F0 m pf lsC (st'.map (zc G)))) → W p G.1 e R s m args below meth c H locs c1 s1 QS (F0 m pc lsC (st.map (zc G))))
    (ht : P → Z G d mt pt ls st' n n1 M Q) (hf : P' → Z G d mt pf ls st' n n1 M Q) : Z G d mt pc ls st n n1 M Q := by
  intro oM oF oL oS p e R s m args below meth c H locs c1 s1 lsC QS X hS hr hl hll hz hn hc hs hE
  exact hw p e R s m args below meth c H locs c1 s1 lsC QS X.1 X.2.1 oS (fun q => ht q oM oF oL (hok oS) p e R s m args below meth c H locs c1 s1 lsC QS X hS hr hl hll hz hn hc hs hE) (fun q => hf q oM oF oL (hok oS) p e R s m args below meth c H locs c1 s1 lsC QS X hS hr hl hll hz hn hc hs hE)
theorem z_ifeq {a : Int} {off : Int} {tgt : Nat} (hd : decode mt.2.1 pc = .ok (.ifCond .eq off, 3)) (ht : (pc : Int) + off = (tgt : Int)) (kt : a = 0 → Z G d mt tgt ls st n n1 M Q) (kf : ¬ a = 0 → Z G d mt (pc + 3) ls st n n1 M Q) : Z G d mt pc ls ((0, a) :: st) n n1 M Q :=
  z_br z_okt (fun _ _ _ _ _ _ _ _ _ _ _ _ _ _ _ hx hb o kt kf => lv_if_eq hx hb hd ht (fun q => kt ((z_ieq (z_okh o) z_in0).mp q)) (fun q => kf (fun r => q ((z_ieq (z_okh o) z_in0).mpr r)))) kt kf
theorem z_icmpeq {a b : Int} {off : Int} {tgt : Nat} (hd : decode mt.2.1 pc = .ok (.if_icmp .eq off, 3)) (ht : (pc : Int) + off = (tgt : Int)) (kt : a = b → Z G d mt tgt ls st n n1 M Q) (kf : ¬ a = b → Z G d mt (pc + 3) ls st n n1 M Q) : Z G d mt pc ls ((0, b) :: (0, a) :: st) n n1 M Q :=
  z_br (fun o => z_okt (z_okt o)) (fun _ _ _ _ _ _ _ _ _ _ _ _ _ _ _ hx hb o kt kf => lv_icmp_eq hx hb hd ht (fun q => kt ((z_ieq (z_okh (z_okt o)) (z_okh o)).mp q)) (fun q => kf (fun r => q ((z_ieq (z_okh (z_okt o)) (z_okh o)).mpr r)))) kt kf
theorem z_ifne {a : Int} {off : Int} {tgt : Nat} (hd : decode mt.2.1 pc = .ok (.ifCond .ne off, 3)) (ht : (pc : Int) + off = (tgt : Int)) (kt : ¬ a = 0 → Z G d mt tgt ls st n n1 M Q) (kf : a = 0 → Z G d mt (pc + 3) ls st n n1 M Q) : Z G d mt pc ls ((0, a) :: st) n n1 M Q :=
  z_br z_okt (fun _ _ _ _ _ _ _ _ _ _ _ _ _ _ _ hx hb o kt kf => lv_if_ne hx hb hd ht (fun q => kt (fun r => q ((z_ieq (z_okh o) z_in0).mpr r))) (fun q => kf ((z_ieq (z_okh o) z_in0).mp q))) kt kf
theorem z_icmpne {a b : Int} {off : Int} {tgt : Nat} (hd : decode mt.2.1 pc = .ok (.if_icmp .ne off, 3)) (ht : (pc : Int) + off = (tgt : Int)) (kt : ¬ a = b → Z G d mt tgt ls st n n1 M Q) (kf : a = b → Z G d mt (pc + 3) ls st n n1 M Q) : Z G d mt pc ls ((0, b) :: (0, a) :: st) n n1 M Q :=
  z_br (fun o => z_okt (z_okt o)) (fun _ _ _ _ _ _ _ _ _ _ _ _ _ _ _ hx hb o kt kf => lv_icmp_ne hx hb hd ht (fun q => kt (fun r => q ((z_ieq (z_okh (z_okt o)) (z_okh o)).mpr r))) (fun q => kf ((z_ieq (z_okh (z_okt o)) (z_okh o)).mp q))) kt kf
theorem z_iflt {a : Int} {off : Int} {tgt : Nat} (hd : decode mt.2.1 pc = .ok (.ifCond .lt off, 3)) (ht : (pc : Int) + off = (tgt : Int)) (kt : a < 0 → Z G d mt tgt ls st n n1 M Q) (kf : 0 ≤ a → Z G d mt (pc + 3) ls st n n1 M Q) : Z G d mt pc ls ((0, a) :: st) n n1 M Q :=
  z_br z_okt (fun _ _ _ _ _ _ _ _ _ _ _ _ _ _ _ hx hb o kt kf => lv_if_lt hx hb hd ht (fun q => kt ((z_ilt (z_okh o) z_in0).mp q)) (fun q => kf (Int.not_lt.mp (fun r => q ((z_ilt (z_okh o) z_in0).mpr r))))) kt kf
theorem z_icmplt {a b : Int} {off : Int} {tgt : Nat} (hd : decode mt.2.1 pc = .ok (.if_icmp .lt off, 3)) (ht : (pc : Int) + off = (tgt : Int)) (kt : a < b → Z G d mt tgt ls st n n1 M Q) (kf : b ≤ a → Z G d mt (pc + 3) ls st n n1 M Q) : Z G d mt pc ls ((0, b) :: (0, a) :: st) n n1 M Q :=
  z_br (fun o => z_okt (z_okt o)) (fun _ _ _ _ _ _ _ _ _ _ _ _ _ _ _ hx hb o kt kf => lv_icmp_lt hx hb hd ht (fun q => kt ((z_ilt (z_okh (z_okt o)) (z_okh o)).mp q)) (fun q => kf (Int.not_lt.mp (fun r => q ((z_ilt (z_okh (z_okt o)) (z_okh o)).mpr r))))) kt kf
theorem z_ifge {a : Int} {off : Int} {tgt : Nat} (hd : decode mt.2.1 pc = .ok (.ifCond .ge off, 3)) (ht : (pc : Int) + off = (tgt : Int)) (kt : 0 ≤ a → Z G d mt tgt ls st n n1 M Q) (kf : a < 0 → Z G d mt (pc + 3) ls st n n1 M Q) : Z G d mt pc ls ((0, a) :: st) n n1 M Q :=
  z_br z_okt (fun _ _ _ _ _ _ _ _ _ _ _ _ _ _ _ hx hb o kt kf => lv_if_ge hx hb hd ht (fun q => kt ((z_ile z_in0 (z_okh o)).mp q)) (fun q => kf (Int.not_le.mp (fun r => q ((z_ile z_in0 (z_okh o)).mpr r))))) kt kf
theorem z_icmpge {a b : Int} {off : Int} {tgt : Nat} (hd : decode mt.2.1 pc = .ok (.if_icmp .ge off, 3)) (ht : (pc : Int) + off = (tgt : Int)) (kt : b ≤ a → Z G d mt tgt ls st n n1 M Q) (kf : a < b → Z G d mt (pc + 3) ls st n n1 M Q) : Z G d mt pc ls ((0, b) :: (0, a) :: st) n n1 M Q :=
  z_br (fun o => z_okt (z_okt o)) (fun _ _ _ _ _ _ _ _ _ _ _ _ _ _ _ hx hb o kt kf => lv_icmp_ge hx hb hd ht (fun q => kt ((z_ile (z_okh o) (z_okh (z_okt o))).mp q)) (fun q => kf (Int.not_le.mp (fun r => q ((z_ile (z_okh o) (z_okh (z_okt o))).mpr r))))) kt kf
theorem z_ifgt {a : Int} {off : Int} {tgt : Nat} (hd : decode mt.2.1 pc = .ok (.ifCond .gt off, 3)) (ht : (pc : Int) + off = (tgt : Int)) (kt : 0 < a → Z G d mt tgt ls st n n1 M Q) (kf : a ≤ 0 → Z G d mt (pc + 3) ls st n n1 M Q) : Z G d mt pc ls ((0, a) :: st) n n1 M Q :=
  z_br z_okt (fun _ _ _ _ _ _ _ _ _ _ _ _ _ _ _ hx hb o kt kf => lv_if_gt hx hb hd ht (fun q => kt ((z_ilt z_in0 (z_okh o)).mp q)) (fun q => kf (Int.not_lt.mp (fun r => q ((z_ilt z_in0 (z_okh o)).mpr r))))) kt kf
theorem z_icmpgt {a b : Int} {off : Int} {tgt : Nat} (hd : decode mt.2.1 pc = .ok (.if_icmp .gt off, 3)) (ht : (pc : Int) + off = (tgt : Int)) (kt : b < a → Z G d mt tgt ls st n n1 M Q) (kf : a ≤ b → Z G d mt (pc + 3) ls st n n1 M Q) : Z G d mt pc ls ((0, b) :: (0, a) :: st) n n1 M Q :=
  z_br (fun o => z_okt (z_okt o)) (fun _ _ _ _ _ _ _ _ _ _ _ _ _ _ _ hx hb o kt kf => lv_icmp_gt hx hb hd ht (fun q => kt ((z_ilt (z_okh o) (z_okh (z_okt o))).mp q)) (fun q => kf (Int.not_lt.mp (fun r => q ((z_ilt (z_okh o) (z_okh (z_okt o))).mpr r))))) kt kf
theorem z_ifle {a : Int} {off : Int} {tgt : Nat} (hd : decode mt.2.1 pc = .ok (.ifCond .le off, 3)) (ht : (pc : Int) + off = (tgt : Int)) (kt : a ≤ 0 → Z G d mt tgt ls st n n1 M Q) (kf : 0 < a → Z G d mt (pc + 3) ls st n n1 M Q) : Z G d mt pc ls ((0, a) :: st) n n1 M Q :=
  z_br z_okt (fun _ _ _ _ _ _ _ _ _ _ _ _ _ _ _ hx hb o kt kf => lv_if_le hx hb hd ht (fun q => kt ((z_ile (z_okh o) z_in0).mp q)) (fun q => kf (Int.not_le.mp (fun r => q ((z_ile (z_okh o) z_in0).mpr r))))) kt kf
theorem z_icmple {a b : Int} {off : Int} {tgt : Nat} (hd : decode mt.2.1 pc = .ok (.if_icmp .le off, 3)) (ht : (pc : Int) + off = (tgt : Int)) (kt : a ≤ b → Z G d mt tgt ls st n n1 M Q) (kf : b < a → Z G d mt (pc + 3) ls st n n1 M Q) : Z G d mt pc ls ((0, b) :: (0, a) :: st) n n1 M Q :=
  z_br (fun o => z_okt (z_okt o)) (fun _ _ _ _ _ _ _ _ _ _ _ _ _ _ _ hx hb o kt kf => lv_icmp_le hx hb hd ht (fun q => kt ((z_ile (z_okh (z_okt o)) (z_okh o)).mp q)) (fun q => kf (Int.not_le.mp (fun r => q ((z_ile (z_okh (z_okt o)) (z_okh o)).mpr r))))) kt kf
theorem z_ifnull {x : Int} {off : Int} {tgt : Nat} (hd : decode mt.2.1 pc = .ok (.ifnull off, 3)) (ht : (pc : Int) + off = (tgt : Int)) (kt : x ≤ 0 → Z G d mt tgt ls st n n1 M Q) (kf : 0 < x → Z G d mt (pc + 3) ls st n n1 M Q) : Z G d mt pc ls ((2, x) :: st) n n1 M Q :=
  z_br z_okt (fun _ _ _ _ _ _ _ _ _ _ _ _ _ _ _ hx hb o kt kf => by
    show W _ _ _ _ _ _ _ _ _ _ _ _ _ _ _ (F0 _ _ _ (zref (zB G) x :: _))
    by_cases q : x ≤ 0
    · rw [show zref (zB G) x = .null from if_pos q]; exact lv_ifnullN hx hb hd ht (kt q)
    · rw [show zref (zB G) x = .ref _ from if_neg q]; exact lv_ifnull hx hb hd (kf (by omega))) kt kf
theorem z_ifnonnull {x : Int} {off : Int} {tgt : Nat} (hd : decode mt.2.1 pc = .ok (.ifnonnull off, 3)) (ht : (pc : Int) + off = (tgt : Int)) (kt : 0 < x → Z G d mt tgt ls st n n1 M Q) (kf : x ≤ 0 → Z G d mt (pc + 3) ls st n n1 M Q) : Z G d mt pc ls ((2, x) :: st) n n1 M Q :=
  z_br z_okt (fun _ _ _ _ _ _ _ _ _ _ _ _ _ _ _ hx hb o kt kf => by
    show W _ _ _ _ _ _ _ _ _ _ _ _ _ _ _ (F0 _ _ _ (zref (zB G) x :: _))
    by_cases q : x ≤ 0
    · rw [show zref (zB G) x = .null from if_pos q]; exact lv_ifnonnullN hx hb hd (kf q)
    · rw [show zref (zB G) x = .ref _ from if_neg q]; exact lv_ifnonnull hx hb hd ht (kt (by omega))) kt kf
theorem z_tswOut {dflt lo hi x : Int} {offs : Array Int} {len tgt : Nat} (hd : decode mt.2.1 pc = .ok (.tableswitch dflt lo hi offs, len)) (hx : x < lo ∨ hi < x) (ht : (pc : Int) + dflt = (tgt : Int)) (h : Z G d mt tgt ls st n n1 M Q) : Z G d mt pc ls ((0, x) :: st) n n1 M Q :=
  z_stp (fun _ o => z_okt o) (fun _ _ _ _ _ _ _ _ _ _ _ _ _ _ _ hx1 hb _ _ _ _ o k => lv_tableOut hx1 hb hd (by rw [z_ti (z_okh o)]; exact hx) ht k) h
theorem z_tswIn {dflt lo hi x off : Int} {offs : Array Int} {len tgt : Nat} (hd : decode mt.2.1 pc = .ok (.tableswitch dflt lo hi offs, len)) (h1 : lo ≤ x) (h2 : x ≤ hi) (ho : offs[(x - lo).toNat]? = some off) (ht : (pc : Int) + off = (tgt : Int)) (h : Z G d mt tgt ls st n n1 M Q) : Z G d mt pc ls ((0, x) :: st) n n1 M Q :=
  z_stp (fun _ o => z_okt o) (fun _ _ _ _ _ _ _ _ _ _ _ _ _ _ _ hx1 hb _ _ _ _ o k => lv_tableIn hx1 hb hd (by rw [z_ti (z_okh o)]; omega) (by rw [z_ti (z_okh o)]; omega) (by rw [z_ti (z_okh o)]; exact ho) ht k) h
theorem z_lsw {dflt x off : Int} {ps : Array (Int × Int)} {len tgt : Nat} (hd : decode mt.2.1 pc = .ok (.lookupswitch dflt ps, len)) (hp : (ps.toList.zip (ps.toList.drop 1)).all (fun (a, next) => a.1 < next.1) = true) (ho : Op.lookupswitch.offset ps.toList dflt x = off) (ht : (pc : Int) + off = (tgt : Int)) (h : Z G d mt tgt ls st n n1 M Q) : Z G d mt pc ls ((0, x) :: st) n n1 M Q :=
  z_stp (fun _ o => z_okt o) (fun _ _ _ _ _ _ _ _ _ _ _ _ _ _ _ hx1 hb _ _ _ _ o k => lv_lookup hx1 hb hd hp (by rw [z_ti (z_okh o)]; exact ho) ht k) h
end ZR
