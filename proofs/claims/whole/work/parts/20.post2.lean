def zsb : List zV → List zV → Prop
  | [], [] => True
  | a :: as, b :: bs => (a = b ∨ a = (9, 0)) ∧ zsb as bs
  | _, _ => False
theorem zsb_len : ∀ {a b : List zV}, zsb a b → a.length = b.length
  | [], [], _ => rfl
  | _ :: _, _ :: _, h => congrArg (· + 1) (zsb_len h.2)
theorem zsb_at : ∀ {a b : List zV} {k : Nat} {v : zV}, zsb a b → a[k]? = some v → v.1 ≠ 9 → b[k]? = some v
  | [], [], k, v, _, h, _ => by simp at h
  | x :: _, y :: _, 0, v, h, hk, h9 => by
    simp only [List.getElem?_cons_zero, Option.some.injEq] at hk ⊢
    subst hk
    rcases h.1 with e | e
    · exact e.symm
    · rw [e] at h9; exact absurd rfl h9
  | _ :: _, _ :: _, k + 1, v, h, hk, h9 => by
    simp only [List.getElem?_cons_succ] at hk ⊢
    exact zsb_at h.2 hk h9
theorem zsb_ok : ∀ {a b : List zV}, zsb a b → zokL b → zokL a
  | [], [], _, h => h
  | x :: _, y :: _, h, hb => by
    rcases h.1 with e | e
    · rw [e]; exact z_okc (z_okh hb) (zsb_ok h.2 (z_okt hb))
    · rw [e]; exact z_okc (t := 9) trivial (zsb_ok h.2 (z_okt hb))
section YR
variable {G : zG} {d : Nat} {mt : zMt} {pc : Nat} {ls st stk : List zV} {n n1 : Nat} {M : zM} {Q : zV → zM → Prop}
/-- some locals are forgotten -/
theorem z_sub {ls' : List zV} (hs : zsb ls' ls) (h : Z G d mt pc ls' st n n1 M Q) : Z G d mt pc ls st n n1 M Q := by
  intro oM oF oL oS p e R s m args below meth c H locs c1 s1 lsC QS X hS hr hl hll hz hn hc hs1 hE
  refine h oM oF (zsb_ok hs oL) oS p e R s m args below meth c H locs c1 s1 lsC QS X hS hr ⟨hl.1, hl.2.1, ?_⟩ ((zsb_len hs).trans hll) hz hn hc hs1 hE
  rintro ⟨k, w⟩ hq
  obtain ⟨v, hv, h9, rfl⟩ := z_mem_as.mp hq
  exact z_lat hl (zsb_at hs hv h9) h9
theorem y_istore {ls' : List zV} {i : Nat} {x : Int} (hd : decode mt.2.1 pc = .ok (.istore i, 2)) (hs : zst ls i = true) (hl : ls.set i (0, x) = ls') (h : Z G d mt (pc + 2) ls' st n n1 M Q) : Z G d mt pc ls ((0, x) :: st) n n1 M Q := z_istore hd hs (by rw [hl]; exact h)
theorem y_istoren {ls' : List zV} {j : Fin 4} {x : Int} (hd : decode mt.2.1 pc = .ok (.istore_n j, 1)) (hs : zst ls j = true) (hl : ls.set j (0, x) = ls') (h : Z G d mt (pc + 1) ls' st n n1 M Q) : Z G d mt pc ls ((0, x) :: st) n n1 M Q := z_istoren hd hs (by rw [hl]; exact h)
theorem y_lstore {ls' : List zV} {i : Nat} {x : Int} (hd : decode mt.2.1 pc = .ok (.lstore i, 2)) (hs : zst ls i = true) (hi : i + 1 < ls.length) (hl : (ls.set i (1, x)).set (i + 1) (9, 0) = ls') (h : Z G d mt (pc + 2) ls' st n n1 M Q) : Z G d mt pc ls ((1, x) :: st) n n1 M Q := z_lstore hd hs hi (by rw [hl]; exact h)
theorem y_lstoren {ls' : List zV} {j : Fin 4} {x : Int} (hd : decode mt.2.1 pc = .ok (.lstore_n j, 1)) (hs : zst ls j = true) (hi : (j : Nat) + 1 < ls.length) (hl : (ls.set j (1, x)).set ((j : Nat) + 1) (9, 0) = ls') (h : Z G d mt (pc + 1) ls' st n n1 M Q) : Z G d mt pc ls ((1, x) :: st) n n1 M Q := z_lstoren hd hs hi (by rw [hl]; exact h)
theorem y_astore {ls' : List zV} {i t : Nat} {x : Int} (hd : decode mt.2.1 pc = .ok (.astore i, 2)) (hs : zst ls i = true) (ht : t = 2 ∨ t = 4) (hl : ls.set i (t, x) = ls') (h : Z G d mt (pc + 2) ls' st n n1 M Q) : Z G d mt pc ls ((t, x) :: st) n n1 M Q := z_astore hd hs ht (by rw [hl]; exact h)
theorem y_astoren {ls' : List zV} {j : Fin 4} {t : Nat} {x : Int} (hd : decode mt.2.1 pc = .ok (.astore_n j, 1)) (hs : zst ls j = true) (ht : t = 2 ∨ t = 4) (hl : ls.set j (t, x) = ls') (h : Z G d mt (pc + 1) ls' st n n1 M Q) : Z G d mt pc ls ((t, x) :: st) n n1 M Q := z_astoren hd hs ht (by rw [hl]; exact h)
theorem y_iinc {ls' : List zV} {i : Nat} {k x : Int} (hd : decode mt.2.1 pc = .ok (.iinc i k, 3)) (hx : ls[i]? = some (0, x)) (hs : zst ls i = true) (hr : -2147483648 ≤ x + k ∧ x + k ≤ 2147483647) (hl : ls.set i (0, x + k) = ls') (h : Z G d mt (pc + 3) ls' st n n1 M Q) : Z G d mt pc ls st n n1 M Q := z_iinc hd hx hs hr (by rw [hl]; exact h)
theorem y_putf {M' : zM} {a v : Int} {idx ci k len t t' : Nat} (hG : zP G) (hd : decode mt.2.1 pc = .ok (.putfield idx, 3)) (hg : zgf mt.1.cls idx ci k) (hs : zsh a.toNat = (ci, len)) (hc : ci < 100 ∧ k < len) (ht : (zfd ci).getD k 0 = t ∧ zft t = t') (hp : zpf ci k t) (hv : t = 3 → 0 ≤ v ∧ v ≤ 1) (ht2 : t ≠ 2) (hM : zset M a k v = M') (h : Y G d mt (pc + 3) ls st M' Q) : Y G d mt pc ls ((t', v) :: (2, a) :: st) M Q := y_put hG hd hg hs hc ht hp hv ht2 (by rw [hM]; exact h)
theorem y_cv {en : List zV} {mt2 : zMt} {idx ci len : Nat} {b : Int} {as : List zV} (hd : decode mt.2.1 pc = .ok (.invokevirtual idx, 3)) (hk : zlk mt.1.cls idx mt2.1) (hm : zmk mt2 as.length) (hi : Cond.instanceMethod mt2.1 ∈ zTs) (hse : Cond.selects mt2.1.cls mt2.1 mt2.1 ∈ zTs)
    (hsk : stk = as.reverse ++ (2, b) :: st) (hsh : zsh b.toNat = (ci, len)) (hci : (ci < 100 ∧ (vwCl[ci]?).map (fun q => q.1) = some mt2.1.cls) ∧ len ≠ 0) (hcs : zcs st ≤ 8) (hex : (zex ((2, b) :: as)).length ≤ mt2.2.2.1) (hen : zen ((2, b) :: as) mt2.2.2.1 = en)
    (h : Y G d mt2 0 en [] M (fun r M' => Y G (d + 1) mt (pc + 3) ls (zpush r st) M' Q)) : Y G (d + 1) mt pc ls stk M Q := y_callv hd hk hm hi hse hsk hsh hci hcs hex (by rw [hen]; exact h)
theorem y_cs {en : List zV} {mt2 : zMt} {idx : Nat} {as : List zV} (hd : decode mt.2.1 pc = .ok (.invokestatic idx, 3)) (hk : zlk mt.1.cls idx mt2.1) (hm : zmk mt2 as.length) (hi : Cond.static mt2.1 ∈ zTs)
    (hsk : stk = as.reverse ++ st) (hcs : zcs st ≤ 8) (hex : (zex as).length ≤ mt2.2.2.1) (hen : zen as mt2.2.2.1 = en)
    (h : Y G d mt2 0 en [] M (fun r M' => Y G (d + 1) mt (pc + 3) ls (zpush r st) M' Q)) : Y G (d + 1) mt pc ls stk M Q := y_calls hd hk hm hi hsk hcs hex (by rw [hen]; exact h)
theorem y_tsw {dflt lo hi x k off : Int} {offs : Array Int} {len tgt : Nat} (hd : decode mt.2.1 pc = .ok (.tableswitch dflt lo hi offs, len)) (hx : x = k) (hk : lo ≤ k ∧ k ≤ hi) (ho : offs[(k - lo).toNat]? = some off) (ht : (pc : Int) + off = (tgt : Int)) (h : Z G d mt tgt ls st n n1 M Q) : Z G d mt pc ls ((0, x) :: st) n n1 M Q := by
  subst hx; exact z_tswIn hd hk.1 hk.2 ho ht h
end YR
/-- the nodes -/
def zND (o : Int) : Prop := o ∈ ([31, 40, 49, 58, 67, 76, 85, 94, 103, 112, 121, 130, 139, 148, 189, 201, 213, 225] : List Int)
def zSC (o : Int) : Prop := o ∈ ([186, 198, 210, 222] : List Int)
theorem nd_all : ∀ o ∈ ([31, 40, 49, 58, 67, 76, 85, 94, 103, 112, 121, 130, 139, 148, 189, 201, 213, 225] : List Int), (zsh o.toNat = (1, 9) ∧ (∀ k : Nat, k < 7 → zsh (o + 1 + k).toNat = (100, 300)) ∧ zsh (o + 8).toNat = (100, 16)) ∧ (∀ k : Nat, k < 8 → zfx o k = o + 1 + k) := by decide +kernel
theorem sc_all : ∀ o ∈ ([186, 198, 210, 222] : List Int), (zsh o.toNat = (7, 5) ∧ zsh (o + 1).toNat = (100, 24) ∧ zsh (o + 2).toNat = (100, 144)) ∧ zfx o 0 = o + 1 ∧ zfx o 1 = o + 2 ∧ zfx o 4 = o + 3 ∧ (o + 3) ∈ ([31, 40, 49, 58, 67, 76, 85, 94, 103, 112, 121, 130, 139, 148, 189, 201, 213, 225] : List Int) := by decide +kernel
theorem nd_0 {o : Int} (h : zND o) : zsh o.toNat = (1, 9) := (nd_all o h).1.1
theorem nd_8 {o : Int} (h : zND o) : zsh (o + 8).toNat = (100, 16) := (nd_all o h).1.2.2
theorem sc_0 {o : Int} (h : zSC o) : zsh o.toNat = (7, 5) := (sc_all o h).1.1
theorem sc_1 {o : Int} (h : zSC o) : zsh (o + 1).toNat = (100, 24) := (sc_all o h).1.2.1
theorem sc_2 {o : Int} (h : zSC o) : zsh (o + 2).toNat = (100, 144) := (sc_all o h).1.2.2
theorem sc_x0 {o : Int} (h : zSC o) : zfx o (0 : Nat) = o + 1 := (sc_all o h).2.1
theorem sc_x1 {o : Int} (h : zSC o) : zfx o (1 : Nat) = o + 2 := (sc_all o h).2.2.1
theorem sc_x4 {o : Int} (h : zSC o) : zfx o (4 : Nat) = o + 3 := (sc_all o h).2.2.2.1
theorem sc_nd {o : Int} (h : zSC o) : zND (o + 3) := (sc_all o h).2.2.2.2
theorem nd_pos {o : Int} (h : zND o) : 31 ≤ o ∧ o ≤ 225 := (by decide +kernel : ∀ o ∈ ([31, 40, 49, 58, 67, 76, 85, 94, 103, 112, 121, 130, 139, 148, 189, 201, 213, 225] : List Int), 31 ≤ o ∧ o ≤ 225) o h
theorem sc_pos {o : Int} (h : zSC o) : 186 ≤ o ∧ o ≤ 222 := (by decide +kernel : ∀ o ∈ ([186, 198, 210, 222] : List Int), 186 ≤ o ∧ o ≤ 222) o h
theorem nd_1 {o : Int} (h : zND o) : zsh (o + 1).toNat = (100, 300) := by have q := (nd_all o h).1.2.1 0 (by decide); rw [show o + 1 + ((0 : Nat) : Int) = o + 1 by omega] at q; exact q
theorem nd_2 {o : Int} (h : zND o) : zsh (o + 2).toNat = (100, 300) := by have q := (nd_all o h).1.2.1 1 (by decide); rw [show o + 1 + ((1 : Nat) : Int) = o + 2 by omega] at q; exact q
theorem nd_3 {o : Int} (h : zND o) : zsh (o + 3).toNat = (100, 300) := by have q := (nd_all o h).1.2.1 2 (by decide); rw [show o + 1 + ((2 : Nat) : Int) = o + 3 by omega] at q; exact q
theorem nd_4 {o : Int} (h : zND o) : zsh (o + 4).toNat = (100, 300) := by have q := (nd_all o h).1.2.1 3 (by decide); rw [show o + 1 + ((3 : Nat) : Int) = o + 4 by omega] at q; exact q
theorem nd_5 {o : Int} (h : zND o) : zsh (o + 5).toNat = (100, 300) := by have q := (nd_all o h).1.2.1 4 (by decide); rw [show o + 1 + ((4 : Nat) : Int) = o + 5 by omega] at q; exact q
theorem nd_6 {o : Int} (h : zND o) : zsh (o + 6).toNat = (100, 300) := by have q := (nd_all o h).1.2.1 5 (by decide); rw [show o + 1 + ((5 : Nat) : Int) = o + 6 by omega] at q; exact q
theorem nd_7 {o : Int} (h : zND o) : zsh (o + 7).toNat = (100, 300) := by have q := (nd_all o h).1.2.1 6 (by decide); rw [show o + 1 + ((6 : Nat) : Int) = o + 7 by omega] at q; exact q
theorem nd_x0 {o : Int} (h : zND o) : zfx o (0 : Nat) = o + 1 := by have q := (nd_all o h).2 0 (by decide); rw [show o + 1 + ((0 : Nat) : Int) = o + 1 by omega] at q; exact q
theorem nd_x1 {o : Int} (h : zND o) : zfx o (1 : Nat) = o + 2 := by have q := (nd_all o h).2 1 (by decide); rw [show o + 1 + ((1 : Nat) : Int) = o + 2 by omega] at q; exact q
theorem nd_x2 {o : Int} (h : zND o) : zfx o (2 : Nat) = o + 3 := by have q := (nd_all o h).2 2 (by decide); rw [show o + 1 + ((2 : Nat) : Int) = o + 3 by omega] at q; exact q
theorem nd_x3 {o : Int} (h : zND o) : zfx o (3 : Nat) = o + 4 := by have q := (nd_all o h).2 3 (by decide); rw [show o + 1 + ((3 : Nat) : Int) = o + 4 by omega] at q; exact q
theorem nd_x4 {o : Int} (h : zND o) : zfx o (4 : Nat) = o + 5 := by have q := (nd_all o h).2 4 (by decide); rw [show o + 1 + ((4 : Nat) : Int) = o + 5 by omega] at q; exact q
theorem nd_x5 {o : Int} (h : zND o) : zfx o (5 : Nat) = o + 6 := by have q := (nd_all o h).2 5 (by decide); rw [show o + 1 + ((5 : Nat) : Int) = o + 6 by omega] at q; exact q
theorem nd_x6 {o : Int} (h : zND o) : zfx o (6 : Nat) = o + 7 := by have q := (nd_all o h).2 6 (by decide); rw [show o + 1 + ((6 : Nat) : Int) = o + 7 by omega] at q; exact q
theorem nd_x7 {o : Int} (h : zND o) : zfx o (7 : Nat) = o + 8 := by have q := (nd_all o h).2 7 (by decide); rw [show o + 1 + ((7 : Nat) : Int) = o + 8 by omega] at q; exact q
theorem nd_ne {o : Int} (h : zND o) (k : Int) (hk : 0 ≤ k) : o + k ≠ 0 := by have := nd_pos h; omega
theorem sc_ne {o : Int} (h : zSC o) (k : Int) (hk : 0 ≤ k) : o + k ≠ 0 := by have := sc_pos h; omega
