/-! pure: tokens: what the class scans -/
def rsrt (s : Int) : Int := if 200 ≤ s then s - 190 else s
def srtOK (s : Int) : Prop := (0 ≤ s ∧ s ≤ 3) ∨ (40 ≤ s ∧ s ≤ 125) ∨ (200 ≤ s ∧ s ≤ 213)
theorem sortW_ws (v : Int) : rsrt (sortW v) = wsN v 14 ∧ (sortW v = 2 ∨ (200 ≤ sortW v ∧ sortW v ≤ 213)) := by
  by_cases h0 : v = 0x7061636B
  · subst h0; exact ⟨by decide +kernel, by decide +kernel⟩
  by_cases h1 : v = 0x6C6F61646572
  · subst h1; exact ⟨by decide +kernel, by decide +kernel⟩
  by_cases h2 : v = 0x636C617373
  · subst h2; exact ⟨by decide +kernel, by decide +kernel⟩
  by_cases h3 : v = 0x66616365
  · subst h3; exact ⟨by decide +kernel, by decide +kernel⟩
  by_cases h4 : v = 0x6F66
  · subst h4; exact ⟨by decide +kernel, by decide +kernel⟩
  by_cases h5 : v = 0x756E646572
  · subst h5; exact ⟨by decide +kernel, by decide +kernel⟩
  by_cases h6 : v = 0x6F70656E
  · subst h6; exact ⟨by decide +kernel, by decide +kernel⟩
  by_cases h7 : v = 0x6E656172
  · subst h7; exact ⟨by decide +kernel, by decide +kernel⟩
  by_cases h8 : v = 0x6F776E
  · subst h8; exact ⟨by decide +kernel, by decide +kernel⟩
  by_cases h9 : v = 0x737461746963
  · subst h9; exact ⟨by decide +kernel, by decide +kernel⟩
  by_cases h10 : v = 0x6162737472616374
  · subst h10; exact ⟨by decide +kernel, by decide +kernel⟩
  by_cases h11 : v = 0x6C656E74
  · subst h11; exact ⟨by decide +kernel, by decide +kernel⟩
  by_cases h12 : v = 0x696E74
  · subst h12; exact ⟨by decide +kernel, by decide +kernel⟩
  by_cases h13 : v = 0x6E6F6E65
  · subst h13; exact ⟨by decide +kernel, by decide +kernel⟩
  have es : sortW v = 2 := by
    unfold sortW
    rw [if_neg h0, if_neg h1, if_neg h2, if_neg h3, if_neg h4, if_neg h5, if_neg h6, if_neg h7, if_neg h8, if_neg h9, if_neg h10, if_neg h11, if_neg h12, if_neg h13]
  rw [es]
  refine ⟨?_, Or.inl rfl⟩
  have st : ∀ i : Nat, ¬ wv.getD i 0 = v → wsN v i = 2 → wsN v (i + 1) = 2 := by
    intro i g1 g2
    simp only [wsN]
    rw [if_pos g2, if_neg g1]
  have w1 := st 0 (fun z => h0 z.symm) rfl
  have w2 := st 1 (fun z => h1 z.symm) w1
  have w3 := st 2 (fun z => h2 z.symm) w2
  have w4 := st 3 (fun z => h3 z.symm) w3
  have w5 := st 4 (fun z => h4 z.symm) w4
  have w6 := st 5 (fun z => h5 z.symm) w5
  have w7 := st 6 (fun z => h6 z.symm) w6
  have w8 := st 7 (fun z => h7 z.symm) w7
  have w9 := st 8 (fun z => h8 z.symm) w8
  have w10 := st 9 (fun z => h9 z.symm) w9
  have w11 := st 10 (fun z => h10 z.symm) w10
  have w12 := st 11 (fun z => h11 z.symm) w11
  have w13 := st 12 (fun z => h12 z.symm) w12
  have w14 := st 13 (fun z => h13 z.symm) w13
  exact w14.symm
theorem byte_u {x : Int} (h0 : -128 ≤ x) (h1 : x < 128) : and32 x 255 = if x < 0 then x + 256 else x := by
  have e1 : ∀ i : Nat, i < 256 → and32 ((i : Int) - 128) 255 = if (i : Int) - 128 < 0 then (i : Int) - 128 + 256 else (i : Int) - 128 := by decide +kernel
  have e2 := e1 (x + 128).toNat (by omega)
  rw [show (((x + 128).toNat : Int) - 128) = x by omega] at e2
  exact e2
theorem va1 {T : Int → Int} {q : Int} (h0 : 0 ≤ T q) (h1 : T q < 128) : vaN T q 1 = T q := by
  have e1 : ∀ i : Nat, i < 128 → or64 (shl64 0 8) (i : Int) = i := by decide +kernel
  have e2 := e1 (T q).toNat (by omega)
  rw [show ((T q).toNat : Int) = T q by omega] at e2
  show or64 (shl64 0 8) (T (q + (0 : Nat))) = T q
  rw [show q + ((0 : Nat) : Int) = q by simp]
  exact e2
theorem C_isLt {S : St} {c : Int} {k : Int → Prop} (h1 : isLt c → k 1) (h0 : ¬ isLt c → k 0) : wX5_isLetter S c k := by
  unfold wX5_isLetter wX5_isLetter_0 wX5_isLetter_12
  refine ⟨fun c1 => ⟨fun c2 => h0 (fun g => by unfold isLt at g; omega), fun c2 => ⟨fun c3 => h0 (fun g => by unfold isLt at g; omega), fun c3 => h1 (Or.inr ⟨c2, c3⟩)⟩⟩, fun c1 => ⟨fun c2 => h1 (Or.inl ⟨c1, c2⟩), fun c2 => ⟨fun c3 => h0 (fun g => by unfold isLt at g; omega), fun c3 => ⟨fun c4 => h0 (fun g => by unfold isLt at g; omega), fun c4 => by omega⟩⟩⟩⟩
theorem C_isDg {S : St} {c : Int} {k : Int → Prop} (h1 : isDg c → k 1) (h0 : ¬ isDg c → k 0) : wX5_isDigit S c k := by
  unfold wX5_isDigit wX5_isDigit_0
  exact ⟨fun c1 => h0 (fun g => by unfold isDg at g; omega), fun c1 => ⟨fun c2 => h0 (fun g => by unfold isDg at g; omega), fun c2 => h1 ⟨c1, c2⟩⟩⟩
theorem C_isSg {S : St} {c : Int} {k : Int → Prop} (h1 : isSg c → k 1) (h0 : ¬ isSg c → k 0) : wX5_isSign S c k := by
  unfold wX5_isSign wX5_isSign_0
  have y : isSg c → k 1 := h1
  unfold isSg at y
  refine ⟨fun z => y (by omega), fun c1 => ⟨fun z => y (by omega), fun c2 => ⟨fun z => y (by omega), fun c3 => ⟨fun z => y (by omega), fun c4 => ⟨fun z => y (by omega), fun c5 => ⟨fun z => y (by omega), fun c6 => ⟨fun z => y (by omega), fun c7 => ⟨fun z => y (by omega), fun c8 => ⟨fun z => h0 (fun g => by unfold isSg at g; omega), fun z => y (by omega)⟩⟩⟩⟩⟩⟩⟩⟩⟩
/-- a row is added behind -/
def addP (S S' : St) (c x1 x2 x4 : Int) : Prop := S' 1028 3 = c + 1 ∧ S' 1029 c = x1 ∧ S' 1030 c = x2 ∧ S' 1031 c = x4 ∧ ∀ a j, ¬ (a = 1028 ∧ j = 3) → ¬ (1029 ≤ a ∧ a ≤ 1031 ∧ j = c) → S' a j = S a j
theorem C_add {S : St} {c x1 x2 x4 : Int} {k : St → Prop} (hc : S 1028 3 = c) (c0 : 0 ≤ c ∧ c < 4001) (hk : ∀ S', addP S S' c x1 x2 x4 → k S') : wX5_add S x1 x2 x4 k := by
  unfold wX5_add wX5_add_0
  rw [hc]
  refine ⟨fun z => by omega, fun _ => ⟨by omega, fun S1 e1 => ?_⟩⟩
  have h1 : S1 1028 3 = c := by rw [e1, up_n _ (by omega)]; exact hc
  rw [h1]
  refine ⟨by omega, fun S2 e2 => ?_⟩
  have h2 : S2 1028 3 = c := by rw [e2, up_n _ (by omega)]; exact h1
  rw [h2]
  refine ⟨by omega, fun S3 e3 S4 e4 => ?_⟩
  have h3 : S3 1028 3 = c := by rw [e3, up_n _ (by omega)]; exact h2
  rw [h3, w32_eq (by omega) (by omega)] at e4
  refine hk S4 ⟨by rw [e4, up_s], ?_, ?_, ?_, fun a j x y => ?_⟩
  · rw [e4, up_n _ (by omega), e3, up_n _ (by omega), e2, up_n _ (by omega), e1, up_s]
  · rw [e4, up_n _ (by omega), e3, up_n _ (by omega), e2, up_s]
  · rw [e4, up_n _ (by omega), e3, up_s]
  · rw [e4, up_n _ (by omega), e3, up_n _ (by omega), e2, up_n _ (by omega), e1, up_n _ (by omega)]
def tkC (T : Int → Int) (n : Int) (te : Int → Int) (S : St) (j : Int) : Prop := Tok T n (te j) (rsrt (S 1029 j)) (S 1030 j) (S 1031 j) (te (j + 1)) ∧ ¬ S 1029 j = 0 ∧ srtOK (S 1029 j)
def offS (S S' : St) : Prop := ∀ a j, a < 1028 ∨ 1031 < a → S' a j = S a j
/-- between words, at i -/
def scZ (T : Int → Int) (n i : Int) (S : St) : Prop := ∃ te : Int → Int, te 0 = 0 ∧ (0 ≤ S 1028 3 ∧ S 1028 3 ≤ i) ∧ S 1028 4 = 0 ∧ (0 ≤ te (S 1028 3) ∧ te (S 1028 3) ≤ i) ∧ (∀ j, te (S 1028 3) ≤ j → j < i → isBl (T j)) ∧ ∀ j, 0 ≤ j → j < S 1028 3 → tkC T n te S j
/-- in a word, at i -/
def scW (T : Int → Int) (n i : Int) (S : St) : Prop := ∃ (te : Int → Int) (c q : Int), te 0 = 0 ∧ S 1028 3 = c + 1 ∧ (0 ≤ c ∧ c + 1 ≤ i) ∧ S 1031 c = q ∧ 0 < S 1028 4 ∧ (0 ≤ te c ∧ te c ≤ q) ∧ q + S 1028 4 = i ∧ (∀ j, te c ≤ j → j < q → isBl (T j)) ∧ isLt (T q) ∧ (∀ j, q ≤ j → j < i → isLt (T j) ∨ isDg (T j)) ∧ S 1030 c = vaN T q (S 1028 4).toNat ∧ ∀ j, 0 ≤ j → j < c → tkC T n te S j
theorem C_endWord {S : St} {T : Int → Int} {n i : Int} {k : St → Prop} (hi : i ≤ n) (hn : n ≤ 4000) (h : scZ T n i S ∨ (scW T n i S ∧ (i < n → ¬ (isLt (T i) ∨ isDg (T i))))) (hk : ∀ S', offS S S' → scZ T n i S' → k S') : wX5_endWord S k := by
  unfold wX5_endWord wX5_endWord_0 wX5_endWord_56
  rcases h with h | ⟨h, hb⟩
  · obtain ⟨te, t0, c1, w0, t1, b1, tk⟩ := h
    rw [w0]
    refine ⟨fun _ => ⟨fun _ U eU => ?_, fun z => absurd z (by decide)⟩, fun z => absurd z (by decide)⟩
    have o : ∀ a j, ¬ (a = 1028 ∧ j = 4) → U a j = S a j := fun a j x => by rw [eU, up_n _ x]
    refine hk U (fun a j x => o a j (by omega)) ⟨te, t0, ?_, by rw [eU, up_s], ?_, ?_, ?_⟩
    · rw [o 1028 3 (by omega)]; exact c1
    · rw [o 1028 3 (by omega)]; exact t1
    · rw [o 1028 3 (by omega)]; exact b1
    · rw [o 1028 3 (by omega)]
      intro j j0 j1
      have := tk j j0 j1
      unfold tkC at this ⊢
      rw [o 1029 j (by omega), o 1030 j (by omega), o 1031 j (by omega)]
      exact this
  · obtain ⟨te, c, q, t0, c1, c2, p1, w1, t1, e1, b1, l1, l2, v1, tk⟩ := h
    have ew : w32 (S 1028 3 - 1) = c := by rw [c1, w32_eq (by omega) (by omega)]; omega
    rw [ew]
    have fin : ∀ v : Int, v = (if 8 < S 1028 4 then 1 else sortW (S 1030 c)) → ∀ U : St, U = up (up S 1029 c v) 1028 4 0 → k U := by
      intro v ev U eU
      have o : ∀ a j, ¬ (a = 1028 ∧ j = 4) → ¬ (a = 1029 ∧ j = c) → U a j = S a j := fun a j x y => by rw [eU, up_n _ x, up_n _ y]
      have uc : U 1029 c = v := by rw [eU, up_n _ (by omega), up_s]
      refine hk U (fun a j x => o a j (by omega) (by omega)) ⟨fun j => if j = c + 1 then i else te j, ?_, ?_, by rw [eU, up_s], ?_, ?_, ?_⟩
      · dsimp only; rw [if_neg (by omega)]; exact t0
      · rw [o 1028 3 (by omega) (by omega), c1]; omega
      · rw [o 1028 3 (by omega) (by omega), c1]
        dsimp only
        rw [if_pos rfl]; omega
      · rw [o 1028 3 (by omega) (by omega), c1]
        dsimp only
        rw [if_pos rfl]
        intro j j0 j1; omega
      · rw [o 1028 3 (by omega) (by omega), c1]
        intro j j0 j1
        unfold tkC
        dsimp only
        by_cases e : j = c
        · subst e
          rw [if_neg (by omega), if_pos rfl, uc, o 1030 j (by omega) (by omega), o 1031 j (by omega) (by omega), p1]
          have sw := sortW_ws (S 1030 j)
          refine ⟨⟨by omega, by omega, b1, Or.inr (Or.inl ⟨by omega, l1, ⟨by omega, hi⟩, l2, hb, ?_, ?_⟩)⟩, ?_, ?_⟩
          · have e4 : (i - q).toNat = (S 1028 4).toNat := by omega
            rw [e4, ← v1, ev, ← sw.1]
            by_cases z : 8 < S 1028 4
            · rw [if_pos z, if_pos (by omega)]; rfl
            · rw [if_neg z, if_neg (by omega)]
          · have e4 : (i - q).toNat = (S 1028 4).toNat := by omega
            rw [e4]; exact v1
          · rw [ev]; split <;> omega
          · rw [ev]; unfold srtOK; split <;> omega
        · rw [if_neg (by omega), if_neg (by omega), o 1029 j (by omega) (by omega), o 1030 j (by omega) (by omega), o 1031 j (by omega) (by omega)]
          exact tk j j0 (by omega)
    refine ⟨fun z => ⟨fun z2 => by omega, fun z2 => ⟨by omega, ?_⟩⟩, fun z => ⟨by omega, fun U1 e1 U2 e2 => fin 1 (by rw [if_pos z]) U2 (by rw [e2, e1])⟩⟩
    unfold wX5_sortOfWord
    exact ⟨by omega, fun U1 e1 U2 e2 => fin _ (by rw [if_neg (by omega)]) U2 (by rw [e2, e1])⟩
theorem Tok_tkC {T : Int → Int} {n : Int} {te te' : Int → Int} {S S' : St} {j : Int} (h : tkC T n te S j) (e1 : te' j = te j) (e2 : te' (j + 1) = te (j + 1)) (s1 : S' 1029 j = S 1029 j) (s2 : S' 1030 j = S 1030 j) (s3 : S' 1031 j = S 1031 j) : tkC T n te' S' j := by
  unfold tkC at h ⊢
  rw [e1, e2, s1, s2, s3]
  exact h
theorem C_scan {S : St} {n : Int} {k : St → Prop} (hn : 0 ≤ n ∧ n ≤ 4000) (hy : ∀ j, 0 ≤ j → j < n → -128 ≤ S 1 j ∧ S 1 j < 128) (hk : ∀ (S' : St) (te : Int → Int) (N : Int), offS S S' → S' 1028 3 = N → 1 ≤ N → N ≤ 4001 → te 0 = 0 → (∀ j, 0 ≤ j → j < N → Tok (S 1) n (te j) (rsrt (S' 1029 j)) (S' 1030 j) (S' 1031 j) (te (j + 1)) ∧ srtOK (S' 1029 j) ∧ 0 ≤ te j) → (∀ j, 0 ≤ j → j < N → (S' 1029 j = 0 ↔ j = N - 1)) → k S') : wX5_scan S n k := by
  have te0 : ∀ (te : Int → Int) (S1 : St) (c : Int), te 0 = 0 → (∀ j, 0 ≤ j → j < c → tkC (S 1) n te S1 j) → ∀ d : Nat, (d : Int) ≤ c → 0 ≤ te d := by
    intro te S1 c t0 tk d
    induction d with
    | zero => intro _; simp [t0]
    | succ d ih =>
      intro hd
      have := ih (by omega)
      have tt := (tk d (by omega) (by omega)).1
      have e : ((d + 1 : Nat) : Int) = (d : Int) + 1 := by omega
      rw [e]
      obtain ⟨a1, a2, a3, a4⟩ := tt
      rcases a4 with g | g | g | g | g
      · omega
      · have := g.2.2.1; omega
      · have := g.2.2.1; omega
      · have := g.2.2.1; omega
      · have := g.2.2.2.2.2.1; omega
  unfold wX5_scan wX5_scan_0
  intro U1 e1 U2 e2
  have oU : offS S U2 := fun a j x => by rw [e2, up_n _ (by omega), e1, up_n _ (by omega)]
  have c0 : U2 1028 3 = 0 := by rw [e2, up_n _ (by omega), e1, up_s]
  have w0 : U2 1028 4 = 0 := by rw [e2, up_s]
  unfold wX5_scan_12
  refine wlp_for n.toNat (fun i S1 => offS S S1 ∧ (scZ (S 1) n i S1 ∨ scW (S 1) n i S1)) ?_ ?_ ⟨oU, Or.inl ⟨fun _ => 0, rfl, by omega, w0, ⟨Int.le_refl 0, Int.le_refl 0⟩, fun j j0 j1 => by simp only [] at j0 j1; omega, fun j j0 j1 => by omega⟩⟩
  · intro P i S1 hi hI hP
    obtain ⟨I1, I2⟩ := hI
    show wX5_scan_12_b S1 n i (fun b0 b1 => P (b0, b1)) k
    unfold wX5_scan_12_b wX5_scan_64 wX5_scan_55
    have y := hy i (by omega) (by omega)
    refine ⟨fun z => by omega, fun _ => ⟨fun z => by omega, fun _ => ⟨by omega, fun c ec => ?_⟩⟩⟩
    rw [I1 1 _ (by omega), byte_u y.1 y.2] at ec
    have hl : isLt c ↔ isLt (S 1 i) := by rw [ec]; unfold isLt; split <;> omega
    have hd : isDg c ↔ isDg (S 1 i) := by rw [ec]; unfold isDg; split <;> omega
    have hs : isSg c ↔ isSg (S 1 i) := by rw [ec]; unfold isSg; split <;> omega
    have beg : (scZ (S 1) n i S1 ∨ (scW (S 1) n i S1 ∧ ((i : Int) < n → ¬ (isLt (S 1 i) ∨ isDg (S 1 i))))) → wX5_endWord S1 (fun S_1 => wX5_begin S_1 c i (fun S_2 => ∀ x_3 : Int, x_3 = w32 ((i : Int) + 1) → P (x_3, S_2))) := by
      intro hz
      refine C_endWord (by omega) hn.2 hz (fun S2 o2 z2 => ?_)
      have oS2 : offS S S2 := fun a j x => (o2 a j x).trans (I1 a j x)
      obtain ⟨te, t0, c1, w0, t1, b1, tk⟩ := z2
      obtain ⟨m, em⟩ : ∃ m, S2 1028 3 = m := ⟨_, rfl⟩
      rw [em] at c1 t1 b1 tk
      have one : ∀ (s v : Int) (S3 : St), addP S2 S3 m s v i → Tok (S 1) n (te m) (rsrt s) v i ((i : Int) + 1) → ¬ s = 0 → srtOK s → ∀ x_3 : Int, x_3 = w32 ((i : Int) + 1) → P (x_3, S3) := by
        intro s v S3 A tt s0 sk x ex
        obtain ⟨A1, A2, A3, A4, A5⟩ := A
        rw [ex, w32_eq (by omega) (by omega)]
        refine hP S3 ⟨fun a j x => (A5 a j (by omega) (by omega)).trans (oS2 a j x), Or.inl ⟨fun j => if j = m + 1 then (i : Int) + 1 else te j, ?_, ?_, ?_, ?_, ?_, ?_⟩⟩
        · dsimp only; rw [if_neg (by omega)]; exact t0
        · rw [A1]; omega
        · rw [A5 1028 4 (by omega) (by omega)]; exact w0
        · rw [A1]; dsimp only; rw [if_pos rfl]; omega
        · rw [A1]; dsimp only; rw [if_pos rfl]; intro j j0 j1; omega
        · rw [A1]
          intro j j0 j1
          by_cases e : j = m
          · subst e
            unfold tkC
            dsimp only
            rw [if_neg (by omega), if_pos rfl, A2, A3, A4]
            exact ⟨tt, s0, sk⟩
          · exact Tok_tkC (tk j j0 (by omega)) (if_neg (by omega)) (if_neg (by omega)) (A5 _ _ (by omega) (by omega)) (A5 _ _ (by omega) (by omega)) (A5 _ _ (by omega) (by omega))
      have blank : isBl (S 1 i) → ∀ x_3 : Int, x_3 = w32 ((i : Int) + 1) → P (x_3, S2) := by
        intro bl x ex
        rw [ex, w32_eq (by omega) (by omega)]
        refine hP S2 ⟨oS2, Or.inl ⟨te, t0, by rw [em]; omega, w0, by rw [em]; omega, ?_, by rw [em]; exact tk⟩⟩
        rw [em]
        intro j j0 j1
        by_cases e : j = i
        · rw [e]; exact bl
        · exact b1 j j0 (by omega)
      unfold wX5_begin wX5_begin_0
      refine C_isLt (fun g => ⟨fun z => absurd z (by decide), fun _ S3 e3 => ?_⟩) (fun g => ⟨fun _ => C_isDg (fun g2 => ⟨fun z => absurd z (by decide), fun _ => ?_⟩) (fun g2 => ⟨fun _ => C_isSg (fun g3 => ⟨fun z => absurd z (by decide), fun _ => ?_⟩) (fun g3 => ⟨fun _ => ⟨fun z => ?_, fun z => ⟨fun z2 => ?_, fun z2 => ?_⟩⟩, fun z => absurd rfl z⟩), fun z => absurd rfl z⟩), fun z => absurd rfl z⟩)
      · have m3 : S3 1028 3 = m := by rw [e3, up_n _ (by omega)]; exact em
        refine C_add m3 (by omega) (fun S4 A => ?_)
        obtain ⟨A1, A2, A3, A4, A5⟩ := A
        intro x ex
        rw [ex, w32_eq (by omega) (by omega)]
        have o3 : ∀ a j, ¬ (a = 1028 ∧ j = 4) → S3 a j = S2 a j := fun a j x => by rw [e3, up_n _ x]
        have w4 : S4 1028 4 = 1 := by rw [A5 1028 4 (by omega) (by omega), e3, up_s]
        have gl := hl.mp g
        have ecp : c = S 1 i := by
          unfold isLt at gl
          rw [if_neg (by omega)] at ec
          exact ec
        refine hP S4 ⟨fun a j x => (A5 a j (by omega) (by omega)).trans ((o3 a j (by omega)).trans (oS2 a j x)), Or.inr ⟨te, m, i, t0, A1, by omega, A4, by rw [w4]; decide, by omega, by rw [w4]; rfl, b1, gl, ?_, ?_, ?_⟩⟩
        · intro j j0 j1
          have : j = i := by omega
          rw [this]; exact Or.inl gl
        · rw [A3, w4, ecp]
          exact (va1 (by unfold isLt at gl; omega) (by unfold isLt at gl; omega)).symm
        · intro j j0 j1
          exact Tok_tkC (tk j j0 j1) rfl rfl ((A5 _ _ (by omega) (by omega)).trans (o3 _ _ (by omega))) ((A5 _ _ (by omega) (by omega)).trans (o3 _ _ (by omega))) ((A5 _ _ (by omega) (by omega)).trans (o3 _ _ (by omega)))
      · have gd := hd.mp g2
        have ecp : c = S 1 i := by
          unfold isDg at gd
          rw [if_neg (by omega)] at ec
          exact ec
        refine C_add em (by omega) (fun S4 A => one 3 _ S4 A ⟨t1.2, by omega, b1, Or.inr (Or.inr (Or.inl ⟨by omega, gd, rfl, by decide, ?_⟩))⟩ (by decide) (Or.inl (by decide)))
        unfold isDg at gd
        rw [ecp, w32_eq (by omega) (by omega)]
      · have gs := hs.mp g3
        have ecp : c = S 1 i := by
          unfold isSg at gs
          rw [if_neg (by omega)] at ec
          exact ec
        have rc : rsrt c = S 1 i := by
          unfold isSg at gs
          unfold rsrt
          rw [if_neg (by omega)]; exact ecp
        refine C_add em (by omega) (fun S4 A => one c 0 S4 A ⟨t1.2, by omega, b1, Or.inr (Or.inr (Or.inr (Or.inl ⟨by omega, gs, rfl, rc⟩)))⟩ ?_ ?_)
        · unfold isSg at g3; omega
        · unfold isSg at g3; exact Or.inr (Or.inl (by omega))
      · refine blank (Or.inl ?_)
        rw [ec] at z
        split at z <;> omega
      · refine blank (Or.inr ?_)
        rw [ec] at z2
        split at z2 <;> omega
      · refine C_add em (by omega) (fun S4 A => one 1 0 S4 A ⟨t1.2, by omega, b1, Or.inr (Or.inr (Or.inr (Or.inr ⟨by omega, ?_, fun w => g (hl.mpr w), fun w => g2 (hd.mpr w), fun w => g3 (hs.mpr w), rfl, by decide⟩)))⟩ (by decide) (Or.inl (by decide)))
        intro w
        rw [ec] at z z2
        unfold isBl at w
        split at z <;> split at z2 <;> omega
    have leng : (isLt (S 1 i) ∨ isDg (S 1 i)) → 0 < S1 1028 4 → wX5_lengthenWord S1 c (fun S_1 => ∀ x_2 : Int, x_2 = w32 ((i : Int) + 1) → P (x_2, S_1)) := by
      intro g w
      have ecp : c = S 1 i := by
        have : ¬ S 1 i < 0 := by
          unfold isLt isDg at g
          omega
        rw [if_neg this] at ec
        exact ec
      rcases I2 with h | h
      · obtain ⟨te, t0, c1, w0, _⟩ := h
        omega
      · obtain ⟨te, m, q, t0, c1, c2, p1, w1, t1, e1, b1, l1, l2, v1, tk⟩ := h
        unfold wX5_lengthenWord wX5_lengthenWord_0
        intro S2 e2
        rw [w32_eq (by omega) (by omega)] at e2
        have o2 : ∀ a j, ¬ (a = 1028 ∧ j = 4) → S2 a j = S1 a j := fun a j x => by rw [e2, up_n _ x]
        have ew : w32 (S2 1028 3 - 1) = m := by rw [o2 1028 3 (by omega), c1, w32_eq (by omega) (by omega)]; omega
        rw [ew]
        refine ⟨by omega, by omega, fun S3 e3 x ex => ?_⟩
        rw [ex, w32_eq (by omega) (by omega)]
        have o3 : ∀ a j, ¬ (a = 1028 ∧ j = 4) → ¬ (a = 1030 ∧ j = m) → S3 a j = S1 a j := fun a j x y => by rw [e3, up_n _ y]; exact o2 a j x
        have w3 : S3 1028 4 = S1 1028 4 + 1 := by rw [e3, up_n _ (by omega), e2, up_s]
        refine hP S3 ⟨fun a j x => (o3 a j (by omega) (by omega)).trans (I1 a j x), Or.inr ⟨te, m, q, t0, (o3 _ _ (by omega) (by omega)).trans c1, by omega, (o3 _ _ (by omega) (by omega)).trans p1, by omega, t1, by rw [w3]; omega, b1, l1, ?_, ?_, ?_⟩⟩
        · intro j j0 j1
          by_cases e : j = i
          · rw [e]; exact g
          · exact l2 j j0 (by omega)
        · rw [w3, e3, up_s, o2 1030 m (by omega), v1, ecp]
          have e5 : (S1 1028 4 + 1).toNat = (S1 1028 4).toNat + 1 := by omega
          rw [e5]
          show _ = or64 (shl64 (vaN (S 1) q (S1 1028 4).toNat) 8) (S 1 (q + ((S1 1028 4).toNat : Int)))
          rw [show q + ((S1 1028 4).toNat : Int) = i by omega]
        · intro j j0 j1
          exact Tok_tkC (tk j j0 j1) rfl rfl (o3 _ _ (by omega) (by omega)) (o3 _ _ (by omega) (by omega)) (o3 _ _ (by omega) (by omega))
    have zor : (isLt (S 1 i) ∨ isDg (S 1 i)) ∨ ¬ (isLt (S 1 i) ∨ isDg (S 1 i)) := Classical.em _
    refine ⟨fun z => beg ?_, fun z => C_isLt (fun g => ⟨fun _ => leng (Or.inl (hl.mp g)) z, fun z => absurd z (by decide)⟩) (fun g => ⟨fun z => absurd rfl z, fun _ => C_isDg (fun g2 => ⟨fun z => absurd z (by decide), fun _ => leng (Or.inr (hd.mp g2)) z⟩) (fun g2 => ⟨fun _ => beg ?_, fun z => absurd rfl z⟩)⟩)⟩
    · rcases I2 with h | h
      · exact Or.inl h
      · obtain ⟨te, m, q, t0, c1, c2, p1, w1, _⟩ := h
        omega
    · rcases I2 with h | h
      · exact Or.inl h
      · refine Or.inr ⟨h, fun _ w => ?_⟩
        rcases w with w | w
        · exact g (hl.mpr w)
        · exact g2 (hd.mpr w)
  · intro P S1 hI
    obtain ⟨I1, I2⟩ := hI
    have en : (n.toNat : Int) = n := by omega
    rw [en] at I2
    show wX5_scan_12_b S1 n (n.toNat : Int) (fun b0 b1 => P (b0, b1)) k
    unfold wX5_scan_12_b wX5_scan_81
    refine ⟨fun _ => ?_, fun z => by omega⟩
    refine C_endWord (Int.le_refl n) hn.2 (by rcases I2 with h | h; exact Or.inl h; exact Or.inr ⟨h, fun z => by omega⟩) (fun S2 o2 z2 => ?_)
    have oS2 : offS S S2 := fun a j x => (o2 a j x).trans (I1 a j x)
    obtain ⟨te, t0, c1, w0, t1, b1, tk⟩ := z2
    obtain ⟨m, em⟩ : ∃ m, S2 1028 3 = m := ⟨_, rfl⟩
    rw [em] at c1 t1 b1 tk
    refine C_add em (by omega) (fun S3 A => ?_)
    obtain ⟨A1, A2, A3, A4, A5⟩ := A
    have tk3 : ∀ j, 0 ≤ j → j < m → tkC (S 1) n te S3 j := fun j j0 j1 => Tok_tkC (tk j j0 j1) rfl rfl (A5 _ _ (by omega) (by omega)) (A5 _ _ (by omega) (by omega)) (A5 _ _ (by omega) (by omega))
    have tp := te0 te S3 m t0 tk3
    refine hk S3 (fun j => if j = m + 1 then n else te j) (m + 1) (fun a j x => (A5 a j (by omega) (by omega)).trans (oS2 a j x)) A1 (by omega) (by omega) ((if_neg (by omega)).trans t0) (fun j j0 j1 => ?_) (fun j j0 j1 => ?_)
    · have tj : 0 ≤ te j := by
        have := tp j.toNat (by omega)
        rw [show (j.toNat : Int) = j by omega] at this
        exact this
      by_cases e : j = m
      · subst e
        rw [if_neg (by omega), if_pos rfl, A2, A3, A4]
        exact ⟨⟨t1.2, Int.le_refl n, b1, Or.inl ⟨rfl, rfl, rfl⟩⟩, Or.inl (by decide), tj⟩
      · have := tk3 j j0 (by omega)
        rw [if_neg (by omega), if_neg (by omega)]
        exact ⟨this.1, this.2.2, tj⟩
    · by_cases e : j = m
      · subst e
        rw [A2]
        exact ⟨fun _ => by omega, fun _ => rfl⟩
      · have := (tk3 j j0 (by omega)).2.1
        exact ⟨fun z => absurd z this, fun z => by omega⟩
