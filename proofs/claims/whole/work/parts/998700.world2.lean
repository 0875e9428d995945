/-! the start: all cells of the class and of the reference -/
theorem vX5_cg (G : GG) (h0 : Nat) {a a' : Nat → Nat} (h : ∀ k, 1 ≤ k → k < 4 → a' k = a k) : vX5 G h0 a' = vX5 G h0 a := by
  unfold vX5
  rw [h 1 (by decide) (by decide), h 2 (by decide) (by decide), h 3 (by decide) (by decide)]
theorem vX4_cg (G : GG) (h0 k0 f0 t0 m0 : Nat) {a a' : Nat → Nat} (h : ∀ k, 1 ≤ k → k < 5 → a' k = a k) : vX4 G h0 k0 f0 t0 m0 a' = vX4 G h0 k0 f0 t0 m0 a := by
  unfold vX4
  rw [h 1 (by decide) (by decide), h 2 (by decide) (by decide), h 3 (by decide) (by decide), h 4 (by decide) (by decide)]
theorem vX1_cg (G : GG) (h0 f0 : Nat) {a a' : Nat → Nat} (h : ∀ k, 1 ≤ k → k < 5 → a' k = a k) : vX1 G h0 f0 a' = vX1 G h0 f0 a := by
  unfold vX1
  rw [h 1 (by decide) (by decide), h 2 (by decide) (by decide), h 3 (by decide) (by decide), h 4 (by decide) (by decide)]
theorem vX7_cg (G : GG) (h0 : Nat) {a a' : Nat → Nat} (h : ∀ k, 1 ≤ k → k < 1042 → a' k = a k) : vX7 G h0 a' = vX7 G h0 a := by
  unfold vX7
  rw [vX2_congr G (a' 2) (a := fun k => a (2 + k)) (fun k k0 k1 => h _ (by omega) (by omega)), vX2_congr G (a' 515) (a := fun k => a (515 + k)) (fun k k0 k1 => h _ (by omega) (by omega)), vX5_cg G (a' 1028) (a := fun k => a (1028 + k)) (fun k k0 k1 => h _ (by omega) (by omega)), vX4_cg G (a' 1032) (a' 1028) (a' 515) (a' 521) (a' 665) (a := fun k => a (1032 + k)) (fun k k0 k1 => h _ (by omega) (by omega)), vX1_cg G (a' 1037) (a' 2) (a := fun k => a (1037 + k)) (fun k k0 k1 => h _ (by omega) (by omega)), h 1 (by decide) (by decide), h 2 (by decide) (by decide), h 515 (by decide) (by decide), h 521 (by decide) (by decide), h 665 (by decide) (by decide), h 1028 (by decide) (by decide), h 1032 (by decide) (by decide), h 1037 (by decide) (by decide)]
theorem at_lng {D : va_G} {cI : ClassId} {N q : Nat} {f g : Nat → Int64} {H : Heap} (h : ∀ j, j < N → f j = g j) (hh : va_at D vwCl (q, .inl (cI, N, .inr (.inl f))) H) : va_at D vwCl (q, .inl (cI, N, .inr (.inl g))) H := by
  have h1 : H[q]? = some (arrV cI N (fun j => .long (f j))) := hh
  show H[q]? = some (arrV cI N (fun j => .long (g j)))
  rw [h1]
  exact congrArg some (arrV_cg (fun j hj => by rw [h j hj]))
theorem S00_r {a j : Int} (h : 1042 ≤ a) (h2 : ¬ a = 1044) : S00 a j = 0 := by
  unfold S00 cmb
  rw [if_neg (by omega)]
  exact R0_0 (by omega)
theorem S00_z {a j : Int} (h : a < 1042) (h1 : ¬ (a = 0 ∧ (j = 4 ∨ j = 5))) (h2 : ¬ (a = 1032 ∧ (j = 3 ∨ j = 12 ∨ j = 14))) (h3 : ¬ (a = 1034 ∧ (j = 0 ∨ j = 1))) (h4 : ¬ (a = 1037 ∧ j = 0)) (h5 : ¬ (j = 0 ∧ ((8 ≤ a ∧ a < 152) ∨ (521 ≤ a ∧ a < 665)))) : S00 a j = 0 := by
  rw [S00_c h]
  exact C0_0 h1 h2 h3 h4 h5
theorem ref_words : ∀ j : Nat, j < 14 → (vp_updL (vp_updL (vp_updL (vp_updL (vp_updL (vp_updL (vp_updL (vp_updL (vp_updL (vp_updL (vp_updL (vp_updL (vp_updL (vp_updL (fun _ => 0) 0 1885430635) 1 119225631139186) 2 427020088179) 3 1717658469) 4 28518) 5 504363246962) 6 1869636974) 7 1852137842) 8 7305070) 9 126943688419683) 10 7017298113369039732) 11 1818586740) 12 6909556) 13 1852796517) j = i64 (S00 1044 j) := by decide +kernel
section World2
variable {G : GG} {H : Heap}
theorem ce_0 : cel G S00 0 = .inr (7, [.ref (G.2.2 1), .int 0, .int 0, .int 0, .ref (G.2.2 2), .ref (G.2.2 515), .ref (G.2.2 1028), .ref (G.2.2 1032), .ref (G.2.2 1037)]) := by
  rw [cel_o (show kd 0 = 7 by decide +kernel) (by decide)]
  show Sum.inr (7, ([Value.ref (G.2.2 1), .int (i32 (S00 0 1)), .int (i32 (S00 0 2)), .int (i32 (S00 0 3)), rv G (S00 0 4), rv G (S00 0 5), .ref (G.2.2 1028), .ref (G.2.2 1032), .ref (G.2.2 1037)] : List Value)) = _
  rw [show S00 0 1 = 0 by decide +kernel, show S00 0 2 = 0 by decide +kernel, show S00 0 3 = 0 by decide +kernel, show S00 0 4 = 2 by decide +kernel, show S00 0 5 = 515 by decide +kernel]
  rfl
theorem ce_1028 : cel G S00 1028 = .inr (5, [.ref (G.2.2 1029), .ref (G.2.2 1030), .ref (G.2.2 1031), .int 0, .int 0]) := by
  rw [cel_o (show kd 1028 = 5 by decide +kernel) (by decide)]
  show Sum.inr (5, ([Value.ref (G.2.2 1029), .ref (G.2.2 1030), .ref (G.2.2 1031), .int (i32 (S00 1028 3)), .int (i32 (S00 1028 4))] : List Value)) = _
  rw [show S00 1028 3 = 0 by decide +kernel, show S00 1028 4 = 0 by decide +kernel]
  rfl
theorem ce_1032 : cel G S00 1032 = .inr (4, [.ref (G.2.2 1028), .ref (G.2.2 1034), .ref (G.2.2 1033), .ref (G.2.2 515), .int 0, .int 0, .long 0, .int 0, .int 0, .int 0, .int 0, .int 0, .ref (G.2.2 521), .int 0, .ref (G.2.2 665)]) := by
  rw [cel_o (show kd 1032 = 4 by decide +kernel) (by decide)]
  show Sum.inr (4, ([Value.ref (G.2.2 1028), .ref (G.2.2 1034), .ref (G.2.2 1033), rv G (S00 1032 3), .int (i32 (S00 1032 4)), .int (i32 (S00 1032 5)), .long (i64 (S00 1032 6)), .int (i32 (S00 1032 7)), .int (i32 (S00 1032 8)), .int (i32 (S00 1032 9)), .int (i32 (S00 1032 10)), .int (i32 (S00 1032 11)), rv G (S00 1032 12), .int (i32 (S00 1032 13)), rv G (S00 1032 14)] : List Value)) = _
  rw [show S00 1032 3 = 515 by decide +kernel, show S00 1032 4 = 0 by decide +kernel, show S00 1032 5 = 0 by decide +kernel, show S00 1032 6 = 0 by decide +kernel, show S00 1032 7 = 0 by decide +kernel, show S00 1032 8 = 0 by decide +kernel, show S00 1032 9 = 0 by decide +kernel, show S00 1032 10 = 0 by decide +kernel, show S00 1032 11 = 0 by decide +kernel, show S00 1032 12 = 521 by decide +kernel, show S00 1032 13 = 0 by decide +kernel, show S00 1032 14 = 665 by decide +kernel]
  rfl
theorem ce_1034 : cel G S00 1034 = .inr (0, [.ref (G.2.2 515), .ref (G.2.2 521), .ref (G.2.2 1035), .ref (G.2.2 1036), .int 0]) := by
  rw [cel_o (show kd 1034 = 0 by decide +kernel) (by decide)]
  show Sum.inr (0, ([rv G (S00 1034 0), rv G (S00 1034 1), .ref (G.2.2 1035), .ref (G.2.2 1036), .int (i32 (S00 1034 4))] : List Value)) = _
  rw [show S00 1034 0 = 515 by decide +kernel, show S00 1034 1 = 521 by decide +kernel, show S00 1034 4 = 0 by decide +kernel]
  rfl
theorem ce_1037 : cel G S00 1037 = .inr (1, [.ref (G.2.2 2), .ref (G.2.2 1038), .int 0, .ref (G.2.2 1039), .ref (G.2.2 1040), .ref (G.2.2 1041), .int 0, .int 0]) := by
  rw [cel_o (show kd 1037 = 1 by decide +kernel) (by decide)]
  show Sum.inr (1, ([rv G (S00 1037 0), .ref (G.2.2 1038), .int (i32 (S00 1037 2)), .ref (G.2.2 1039), .ref (G.2.2 1040), .ref (G.2.2 1041), .int (i32 (S00 1037 6)), .int (i32 (S00 1037 7))] : List Value)) = _
  rw [show S00 1037 0 = 2 by decide +kernel, show S00 1037 2 = 0 by decide +kernel, show S00 1037 6 = 0 by decide +kernel, show S00 1037 7 = 0 by decide +kernel]
  rfl
theorem ce_1042 : cel G S00 1042 = .inr (8, [.ref (G.2.2 1043), .int 0, .int 0, .ref (G.2.2 1044), .int 0, .int 0, .int 0, .long 0, .int 0, .int 0, .int 0, .int 0, .ref (G.2.2 1045), .ref (G.2.2 1046), .ref (G.2.2 1047), .ref (G.2.2 1048), .ref (G.2.2 1049), .ref (G.2.2 1050), .ref (G.2.2 1051), .ref (G.2.2 1052), .ref (G.2.2 1053), .ref (G.2.2 1054), .ref (G.2.2 1055), .ref (G.2.2 1056), .ref (G.2.2 1057), .ref (G.2.2 1058), .ref (G.2.2 1059), .ref (G.2.2 1060), .ref (G.2.2 1061), .ref (G.2.2 1062), .ref (G.2.2 1063), .ref (G.2.2 1064), .ref (G.2.2 1065), .ref (G.2.2 1066), .ref (G.2.2 1067), .ref (G.2.2 1068), .ref (G.2.2 1069), .ref (G.2.2 1070), .ref (G.2.2 1071), .ref (G.2.2 1072), .ref (G.2.2 1073), .ref (G.2.2 1074), .ref (G.2.2 1075), .ref (G.2.2 1076), .ref (G.2.2 1077), .ref (G.2.2 1078), .int 0, .int 0, .int 0, .ref (G.2.2 1079), .int 0, .ref (G.2.2 1080), .int 0, .int 0, .int 0, .ref (G.2.2 1081), .int 0, .ref (G.2.2 1082), .int 0, .int 0]) := by
  rw [cel_o (show kd 1042 = 8 by decide +kernel) (by decide)]
  show Sum.inr (8, ([Value.ref (G.2.2 1043), .int (i32 (S00 1042 1)), .int (i32 (S00 1042 2)), .ref (G.2.2 1044), .int (i32 (S00 1042 4)), .int (i32 (S00 1042 5)), .int (i32 (S00 1042 6)), .long (i64 (S00 1042 7)), .int (i32 (S00 1042 8)), .int (i32 (S00 1042 9)), .int (i32 (S00 1042 10)), .int (i32 (S00 1042 11)), .ref (G.2.2 1045), .ref (G.2.2 1046), .ref (G.2.2 1047), .ref (G.2.2 1048), .ref (G.2.2 1049), .ref (G.2.2 1050), .ref (G.2.2 1051), .ref (G.2.2 1052), .ref (G.2.2 1053), .ref (G.2.2 1054), .ref (G.2.2 1055), .ref (G.2.2 1056), .ref (G.2.2 1057), .ref (G.2.2 1058), .ref (G.2.2 1059), .ref (G.2.2 1060), .ref (G.2.2 1061), .ref (G.2.2 1062), .ref (G.2.2 1063), .ref (G.2.2 1064), .ref (G.2.2 1065), .ref (G.2.2 1066), .ref (G.2.2 1067), .ref (G.2.2 1068), .ref (G.2.2 1069), .ref (G.2.2 1070), .ref (G.2.2 1071), .ref (G.2.2 1072), .ref (G.2.2 1073), .ref (G.2.2 1074), .ref (G.2.2 1075), .ref (G.2.2 1076), .ref (G.2.2 1077), .ref (G.2.2 1078), .int (i32 (S00 1042 46)), .int (i32 (S00 1042 47)), .int (i32 (S00 1042 48)), .ref (G.2.2 1079), .int (i32 (S00 1042 50)), .ref (G.2.2 1080), .int (i32 (S00 1042 52)), .int (i32 (S00 1042 53)), .int (i32 (S00 1042 54)), .ref (G.2.2 1081), .int (i32 (S00 1042 56)), .ref (G.2.2 1082), .int (i32 (S00 1042 58)), .int (i32 (S00 1042 59))] : List Value)) = _
  have z : ∀ j : Int, S00 1042 j = 0 := fun j => S00_r (by decide) (by decide)
  simp only [z]
  rfl
theorem cls_cells (hP : va_P G.1 vwCl (vX7 G (G.2.2 0) G.2.2) H) : ∀ k, k < 1042 → va_at G.1 vwCl (G.2.2 k, cel G S00 k) H := by
  have p1 := vP_right hP
  have p4 := vP_right (vP_left hP)
  have p5 := vP_right (vP_left (vP_left hP))
  have pb := vP_right (vP_left (vP_left (vP_left hP)))
  have ph := vP_left (vP_left (vP_left (vP_left hP)))
  have pa : va_P G.1 vwCl (vX2 G (G.2.2 2) (fun k => G.2.2 (2 + k))) H := fun k q hk => ph (k + 2) q hk
  have fa := fam_cells (Or.inl rfl) kF2 kT2 kM2 pa
  have fb := fam_cells (Or.inr rfl) kF5 kT5 kM5 pb
  intro k hk
  by_cases c1 : k < 2
  · match k, c1 with
    | 0, _ => rw [ce_0]; exact ph 0 _ rfl
    | 1, _ => exact by rw [cel_B (show kd 1 = 20 by decide +kernel) (show ln 1 = 4000 by decide +kernel) (fun j => S00_z (by decide) (by omega) (by omega) (by omega) (by omega) (by omega))]; exact ph 1 _ rfl
  · by_cases c2 : k < 515
    · have := fa (k - 2) (by omega)
      rw [show 2 + (k - 2) = k by omega] at this
      exact this
    · by_cases c3 : k < 1028
      · obtain ⟨r, hr, ek⟩ : ∃ r, r < 513 ∧ k = 515 + r := ⟨k - 515, by omega, by omega⟩
        subst ek
        exact fb r hr
      · obtain ⟨r, hr, ek⟩ : ∃ r, r < 14 ∧ k = 1028 + r := ⟨k - 1028, by omega, by omega⟩
        subst ek
        match r, hr with
        | 0, _ => show va_at G.1 vwCl (G.2.2 1028, cel G S00 1028) H; rw [ce_1028]; exact p5 0 _ rfl
        | 1, _ => show va_at G.1 vwCl (G.2.2 1029, cel G S00 1029) H; exact by rw [cel_I (show kd 1029 = 21 by decide +kernel) (show ln 1029 = 4001 by decide +kernel) (fun j => S00_z (by decide) (by omega) (by omega) (by omega) (by omega) (by omega))]; exact p5 1 _ rfl
        | 2, _ => show va_at G.1 vwCl (G.2.2 1030, cel G S00 1030) H; exact by rw [cel_L (show kd 1030 = 22 by decide +kernel) (show ln 1030 = 4001 by decide +kernel) (fun j => S00_z (by decide) (by omega) (by omega) (by omega) (by omega) (by omega))]; exact p5 2 _ rfl
        | 3, _ => show va_at G.1 vwCl (G.2.2 1031, cel G S00 1031) H; exact by rw [cel_I (show kd 1031 = 21 by decide +kernel) (show ln 1031 = 4001 by decide +kernel) (fun j => S00_z (by decide) (by omega) (by omega) (by omega) (by omega) (by omega))]; exact p5 3 _ rfl
        | 4, _ => show va_at G.1 vwCl (G.2.2 1032, cel G S00 1032) H; rw [ce_1032]; exact p4 0 _ rfl
        | 5, _ => show va_at G.1 vwCl (G.2.2 1033, cel G S00 1033) H; exact by rw [cel_L (show kd 1033 = 22 by decide +kernel) (show ln 1033 = 572 by decide +kernel) (fun j => S00_z (by decide) (by omega) (by omega) (by omega) (by omega) (by omega))]; exact p4 1 _ rfl
        | 6, _ => show va_at G.1 vwCl (G.2.2 1034, cel G S00 1034) H; rw [ce_1034]; exact p4 2 _ rfl
        | 7, _ => show va_at G.1 vwCl (G.2.2 1035, cel G S00 1035) H; exact by rw [cel_I (show kd 1035 = 21 by decide +kernel) (show ln 1035 = 360 by decide +kernel) (fun j => S00_z (by decide) (by omega) (by omega) (by omega) (by omega) (by omega))]; exact p4 3 _ rfl
        | 8, _ => show va_at G.1 vwCl (G.2.2 1036, cel G S00 1036) H; exact by rw [cel_I (show kd 1036 = 21 by decide +kernel) (show ln 1036 = 120 by decide +kernel) (fun j => S00_z (by decide) (by omega) (by omega) (by omega) (by omega) (by omega))]; exact p4 4 _ rfl
        | 9, _ => show va_at G.1 vwCl (G.2.2 1037, cel G S00 1037) H; rw [ce_1037]; exact p1 0 _ rfl
        | 10, _ => show va_at G.1 vwCl (G.2.2 1038, cel G S00 1038) H; exact by rw [cel_I (show kd 1038 = 21 by decide +kernel) (show ln 1038 = 24 by decide +kernel) (fun j => S00_z (by decide) (by omega) (by omega) (by omega) (by omega) (by omega))]; exact p1 1 _ rfl
        | 11, _ => show va_at G.1 vwCl (G.2.2 1039, cel G S00 1039) H; exact by rw [cel_I (show kd 1039 = 21 by decide +kernel) (show ln 1039 = 24 by decide +kernel) (fun j => S00_z (by decide) (by omega) (by omega) (by omega) (by omega) (by omega))]; exact p1 2 _ rfl
        | 12, _ => show va_at G.1 vwCl (G.2.2 1040, cel G S00 1040) H; exact by rw [cel_I (show kd 1040 = 21 by decide +kernel) (show ln 1040 = 24 by decide +kernel) (fun j => S00_z (by decide) (by omega) (by omega) (by omega) (by omega) (by omega))]; exact p1 3 _ rfl
        | 13, _ => show va_at G.1 vwCl (G.2.2 1041, cel G S00 1041) H; exact by rw [cel_Z (show kd 1041 = 23 by decide +kernel) (show ln 1041 = 24 by decide +kernel) (fun j => S00_z (by decide) (by omega) (by omega) (by omega) (by omega) (by omega))]; exact p1 4 _ rfl
def o8 (ad : Nat → Nat) : List Value := [.ref (ad 1), .int 0, .int 0, .ref (ad 2), .int 0, .int 0, .int 0, .long 0, .int 0, .int 0, .int 0, .int 0, .ref (ad 3), .ref (ad 4), .ref (ad 5), .ref (ad 6), .ref (ad 7), .ref (ad 8), .ref (ad 9), .ref (ad 10), .ref (ad 11), .ref (ad 12), .ref (ad 13), .ref (ad 14), .ref (ad 15), .ref (ad 16), .ref (ad 17), .ref (ad 18), .ref (ad 19), .ref (ad 20), .ref (ad 21), .ref (ad 22), .ref (ad 23), .ref (ad 24), .ref (ad 25), .ref (ad 26), .ref (ad 27), .ref (ad 28), .ref (ad 29), .ref (ad 30), .ref (ad 31), .ref (ad 32), .ref (ad 33), .ref (ad 34), .ref (ad 35), .ref (ad 36), .int 0, .int 0, .int 0, .ref (ad 37), .int 0, .ref (ad 38), .int 0, .int 0, .int 0, .ref (ad 39), .int 0, .ref (ad 40), .int 0, .int 0]
def vX8L (G : GG) (ad : Nat → Nat) : va_W := [(ad 1, .inl (G.2.1 0, 4000, .inl (fun _ => 0))), (ad 2, .inl (G.2.1 2, 14, .inr (.inl (vp_updL (vp_updL (vp_updL (vp_updL (vp_updL (vp_updL (vp_updL (vp_updL (vp_updL (vp_updL (vp_updL (vp_updL (vp_updL (vp_updL (fun _ => 0) 0 1885430635) 1 119225631139186) 2 427020088179) 3 1717658469) 4 28518) 5 504363246962) 6 1869636974) 7 1852137842) 8 7305070) 9 126943688419683) 10 7017298113369039732) 11 1818586740) 12 6909556) 13 1852796517)))), (ad 3, .inl (G.2.1 1, 2, .inl (fun _ => 0))), (ad 4, .inl (G.2.1 1, 2, .inl (fun _ => 0))), (ad 5, .inl (G.2.1 1, 2, .inl (fun _ => 0))), (ad 6, .inl (G.2.1 1, 2, .inl (fun _ => 0))), (ad 7, .inl (G.2.1 2, 1402, .inr (.inl (fun _ => 0)))), (ad 8, .inl (G.2.1 2, 48, .inr (.inl (fun _ => 0)))), (ad 9, .inl (G.2.1 1, 48, .inl (fun _ => 0))), (ad 10, .inl (G.2.1 1, 48, .inl (fun _ => 0))), (ad 11, .inl (G.2.1 1, 48, .inl (fun _ => 0))), (ad 12, .inl (G.2.1 1, 48, .inl (fun _ => 0))), (ad 13, .inl (G.2.1 1, 48, .inl (fun _ => 0))), (ad 14, .inl (G.2.1 2, 96, .inr (.inl (fun _ => 0)))), (ad 15, .inl (G.2.1 1, 96, .inl (fun _ => 0))), (ad 16, .inl (G.2.1 1, 48, .inl (fun _ => 0))), (ad 17, .inl (G.2.1 1, 240, .inl (fun _ => 0))), (ad 18, .inl (G.2.1 1, 480, .inl (fun _ => 0))), (ad 19, .inl (G.2.1 1, 48, .inl (fun _ => 0))), (ad 20, .inl (G.2.1 1, 48, .inl (fun _ => 0))), (ad 21, .inl (G.2.1 1, 1152, .inl (fun _ => 0))), (ad 22, .inl (G.2.1 3, 1152, .inl (fun _ => 0))), (ad 23, .inl (G.2.1 1, 2304, .inl (fun _ => 0))), (ad 24, .inl (G.2.1 1, 48, .inl (fun _ => 0))), (ad 25, .inl (G.2.1 1, 48, .inl (fun _ => 0))), (ad 26, .inl (G.2.1 1, 48, .inl (fun _ => 0))), (ad 27, .inl (G.2.1 1, 48, .inl (fun _ => 0))), (ad 28, .inl (G.2.1 1, 240, .inl (fun _ => 0))), (ad 29, .inl (G.2.1 2, 240, .inr (.inl (fun _ => 0)))), (ad 30, .inl (G.2.1 1, 240, .inl (fun _ => 0))), (ad 31, .inl (G.2.1 1, 240, .inl (fun _ => 0))), (ad 32, .inl (G.2.1 1, 240, .inl (fun _ => 0))), (ad 33, .inl (G.2.1 1, 720, .inl (fun _ => 0))), (ad 34, .inl (G.2.1 3, 28800, .inl (fun _ => 0))), (ad 35, .inl (G.2.1 1, 14400, .inl (fun _ => 0))), (ad 36, .inl (G.2.1 1, 14400, .inl (fun _ => 0))), (ad 37, .inl (G.2.1 1, 24, .inl (fun _ => 0))), (ad 38, .inl (G.2.1 1, 24, .inl (fun _ => 0))), (ad 39, .inl (G.2.1 1, 24, .inl (fun _ => 0))), (ad 40, .inl (G.2.1 3, 576, .inl (fun _ => 0)))]
set_option maxRecDepth 20000 in
theorem vX8_eq (h0 : Nat) (ad : Nat → Nat) : vX8 G h0 ad = (h0, .inr (8, o8 ad)) :: vX8L G ad := by
  unfold vX8 vX8L o8 dX8
  simp only [List.set_cons_succ, List.set_cons_zero, List.cons_append, List.nil_append]
set_option maxRecDepth 20000 in
theorem ref_cells (hP : va_P G.1 vwCl (vX8 G (G.2.2 1042) (fun k => G.2.2 (1042 + k))) H) : ∀ r, r < 41 → va_at G.1 vwCl (G.2.2 (1042 + r), cel G S00 (1042 + r)) H := by
  rw [vX8_eq] at hP
  intro r hr
  match r, hr with
  | 0, _ => show va_at G.1 vwCl (G.2.2 1042, cel G S00 1042) H; rw [ce_1042]; exact hP 0 _ rfl
  | 1, _ => show va_at G.1 vwCl (G.2.2 1043, cel G S00 1043) H; exact by rw [cel_B (show kd 1043 = 20 by decide +kernel) (show ln 1043 = 4000 by decide +kernel) (fun j => S00_r (by decide) (by decide))]; exact hP 1 _ rfl
  | 2, _ =>
    show va_at G.1 vwCl (G.2.2 1044, cel G S00 1044) H
    have e : cel G S00 1044 = .inl (G.2.1 2, 14, .inr (.inl (fun j => i64 (S00 1044 j)))) := by
      unfold cel arw
      rw [show kd 1044 = 22 by decide +kernel, show ln 1044 = 14 by decide +kernel, if_neg (by decide)]
      rfl
    rw [e]
    refine at_lng (N := 14) (fun j hj => ?_) (hP 2 _ rfl)
    exact ref_words j hj
  | 3, _ => show va_at G.1 vwCl (G.2.2 1045, cel G S00 1045) H; exact by rw [cel_I (show kd 1045 = 21 by decide +kernel) (show ln 1045 = 2 by decide +kernel) (fun j => S00_r (by decide) (by decide))]; exact hP 3 _ rfl
  | 4, _ => show va_at G.1 vwCl (G.2.2 1046, cel G S00 1046) H; exact by rw [cel_I (show kd 1046 = 21 by decide +kernel) (show ln 1046 = 2 by decide +kernel) (fun j => S00_r (by decide) (by decide))]; exact hP 4 _ rfl
  | 5, _ => show va_at G.1 vwCl (G.2.2 1047, cel G S00 1047) H; exact by rw [cel_I (show kd 1047 = 21 by decide +kernel) (show ln 1047 = 2 by decide +kernel) (fun j => S00_r (by decide) (by decide))]; exact hP 5 _ rfl
  | 6, _ => show va_at G.1 vwCl (G.2.2 1048, cel G S00 1048) H; exact by rw [cel_I (show kd 1048 = 21 by decide +kernel) (show ln 1048 = 2 by decide +kernel) (fun j => S00_r (by decide) (by decide))]; exact hP 6 _ rfl
  | 7, _ => show va_at G.1 vwCl (G.2.2 1049, cel G S00 1049) H; exact by rw [cel_L (show kd 1049 = 22 by decide +kernel) (show ln 1049 = 1402 by decide +kernel) (fun j => S00_r (by decide) (by decide))]; exact hP 7 _ rfl
  | 8, _ => show va_at G.1 vwCl (G.2.2 1050, cel G S00 1050) H; exact by rw [cel_L (show kd 1050 = 22 by decide +kernel) (show ln 1050 = 48 by decide +kernel) (fun j => S00_r (by decide) (by decide))]; exact hP 8 _ rfl
  | 9, _ => show va_at G.1 vwCl (G.2.2 1051, cel G S00 1051) H; exact by rw [cel_I (show kd 1051 = 21 by decide +kernel) (show ln 1051 = 48 by decide +kernel) (fun j => S00_r (by decide) (by decide))]; exact hP 9 _ rfl
  | 10, _ => show va_at G.1 vwCl (G.2.2 1052, cel G S00 1052) H; exact by rw [cel_I (show kd 1052 = 21 by decide +kernel) (show ln 1052 = 48 by decide +kernel) (fun j => S00_r (by decide) (by decide))]; exact hP 10 _ rfl
  | 11, _ => show va_at G.1 vwCl (G.2.2 1053, cel G S00 1053) H; exact by rw [cel_I (show kd 1053 = 21 by decide +kernel) (show ln 1053 = 48 by decide +kernel) (fun j => S00_r (by decide) (by decide))]; exact hP 11 _ rfl
  | 12, _ => show va_at G.1 vwCl (G.2.2 1054, cel G S00 1054) H; exact by rw [cel_I (show kd 1054 = 21 by decide +kernel) (show ln 1054 = 48 by decide +kernel) (fun j => S00_r (by decide) (by decide))]; exact hP 12 _ rfl
  | 13, _ => show va_at G.1 vwCl (G.2.2 1055, cel G S00 1055) H; exact by rw [cel_I (show kd 1055 = 21 by decide +kernel) (show ln 1055 = 48 by decide +kernel) (fun j => S00_r (by decide) (by decide))]; exact hP 13 _ rfl
  | 14, _ => show va_at G.1 vwCl (G.2.2 1056, cel G S00 1056) H; exact by rw [cel_L (show kd 1056 = 22 by decide +kernel) (show ln 1056 = 96 by decide +kernel) (fun j => S00_r (by decide) (by decide))]; exact hP 14 _ rfl
  | 15, _ => show va_at G.1 vwCl (G.2.2 1057, cel G S00 1057) H; exact by rw [cel_I (show kd 1057 = 21 by decide +kernel) (show ln 1057 = 96 by decide +kernel) (fun j => S00_r (by decide) (by decide))]; exact hP 15 _ rfl
  | 16, _ => show va_at G.1 vwCl (G.2.2 1058, cel G S00 1058) H; exact by rw [cel_I (show kd 1058 = 21 by decide +kernel) (show ln 1058 = 48 by decide +kernel) (fun j => S00_r (by decide) (by decide))]; exact hP 16 _ rfl
  | 17, _ => show va_at G.1 vwCl (G.2.2 1059, cel G S00 1059) H; exact by rw [cel_I (show kd 1059 = 21 by decide +kernel) (show ln 1059 = 240 by decide +kernel) (fun j => S00_r (by decide) (by decide))]; exact hP 17 _ rfl
  | 18, _ => show va_at G.1 vwCl (G.2.2 1060, cel G S00 1060) H; exact by rw [cel_I (show kd 1060 = 21 by decide +kernel) (show ln 1060 = 480 by decide +kernel) (fun j => S00_r (by decide) (by decide))]; exact hP 18 _ rfl
  | 19, _ => show va_at G.1 vwCl (G.2.2 1061, cel G S00 1061) H; exact by rw [cel_I (show kd 1061 = 21 by decide +kernel) (show ln 1061 = 48 by decide +kernel) (fun j => S00_r (by decide) (by decide))]; exact hP 19 _ rfl
  | 20, _ => show va_at G.1 vwCl (G.2.2 1062, cel G S00 1062) H; exact by rw [cel_I (show kd 1062 = 21 by decide +kernel) (show ln 1062 = 48 by decide +kernel) (fun j => S00_r (by decide) (by decide))]; exact hP 20 _ rfl
  | 21, _ => show va_at G.1 vwCl (G.2.2 1063, cel G S00 1063) H; exact by rw [cel_I (show kd 1063 = 21 by decide +kernel) (show ln 1063 = 1152 by decide +kernel) (fun j => S00_r (by decide) (by decide))]; exact hP 21 _ rfl
  | 22, _ => show va_at G.1 vwCl (G.2.2 1064, cel G S00 1064) H; exact by rw [cel_Z (show kd 1064 = 23 by decide +kernel) (show ln 1064 = 1152 by decide +kernel) (fun j => S00_r (by decide) (by decide))]; exact hP 22 _ rfl
  | 23, _ => show va_at G.1 vwCl (G.2.2 1065, cel G S00 1065) H; exact by rw [cel_I (show kd 1065 = 21 by decide +kernel) (show ln 1065 = 2304 by decide +kernel) (fun j => S00_r (by decide) (by decide))]; exact hP 23 _ rfl
  | 24, _ => show va_at G.1 vwCl (G.2.2 1066, cel G S00 1066) H; exact by rw [cel_I (show kd 1066 = 21 by decide +kernel) (show ln 1066 = 48 by decide +kernel) (fun j => S00_r (by decide) (by decide))]; exact hP 24 _ rfl
  | 25, _ => show va_at G.1 vwCl (G.2.2 1067, cel G S00 1067) H; exact by rw [cel_I (show kd 1067 = 21 by decide +kernel) (show ln 1067 = 48 by decide +kernel) (fun j => S00_r (by decide) (by decide))]; exact hP 25 _ rfl
  | 26, _ => show va_at G.1 vwCl (G.2.2 1068, cel G S00 1068) H; exact by rw [cel_I (show kd 1068 = 21 by decide +kernel) (show ln 1068 = 48 by decide +kernel) (fun j => S00_r (by decide) (by decide))]; exact hP 26 _ rfl
  | 27, _ => show va_at G.1 vwCl (G.2.2 1069, cel G S00 1069) H; exact by rw [cel_I (show kd 1069 = 21 by decide +kernel) (show ln 1069 = 48 by decide +kernel) (fun j => S00_r (by decide) (by decide))]; exact hP 27 _ rfl
  | 28, _ => show va_at G.1 vwCl (G.2.2 1070, cel G S00 1070) H; exact by rw [cel_I (show kd 1070 = 21 by decide +kernel) (show ln 1070 = 240 by decide +kernel) (fun j => S00_r (by decide) (by decide))]; exact hP 28 _ rfl
  | 29, _ => show va_at G.1 vwCl (G.2.2 1071, cel G S00 1071) H; exact by rw [cel_L (show kd 1071 = 22 by decide +kernel) (show ln 1071 = 240 by decide +kernel) (fun j => S00_r (by decide) (by decide))]; exact hP 29 _ rfl
  | 30, _ => show va_at G.1 vwCl (G.2.2 1072, cel G S00 1072) H; exact by rw [cel_I (show kd 1072 = 21 by decide +kernel) (show ln 1072 = 240 by decide +kernel) (fun j => S00_r (by decide) (by decide))]; exact hP 30 _ rfl
  | 31, _ => show va_at G.1 vwCl (G.2.2 1073, cel G S00 1073) H; exact by rw [cel_I (show kd 1073 = 21 by decide +kernel) (show ln 1073 = 240 by decide +kernel) (fun j => S00_r (by decide) (by decide))]; exact hP 31 _ rfl
  | 32, _ => show va_at G.1 vwCl (G.2.2 1074, cel G S00 1074) H; exact by rw [cel_I (show kd 1074 = 21 by decide +kernel) (show ln 1074 = 240 by decide +kernel) (fun j => S00_r (by decide) (by decide))]; exact hP 32 _ rfl
  | 33, _ => show va_at G.1 vwCl (G.2.2 1075, cel G S00 1075) H; exact by rw [cel_I (show kd 1075 = 21 by decide +kernel) (show ln 1075 = 720 by decide +kernel) (fun j => S00_r (by decide) (by decide))]; exact hP 33 _ rfl
  | 34, _ => show va_at G.1 vwCl (G.2.2 1076, cel G S00 1076) H; exact by rw [cel_Z (show kd 1076 = 23 by decide +kernel) (show ln 1076 = 28800 by decide +kernel) (fun j => S00_r (by decide) (by decide))]; exact hP 34 _ rfl
  | 35, _ => show va_at G.1 vwCl (G.2.2 1077, cel G S00 1077) H; exact by rw [cel_I (show kd 1077 = 21 by decide +kernel) (show ln 1077 = 14400 by decide +kernel) (fun j => S00_r (by decide) (by decide))]; exact hP 35 _ rfl
  | 36, _ => show va_at G.1 vwCl (G.2.2 1078, cel G S00 1078) H; exact by rw [cel_I (show kd 1078 = 21 by decide +kernel) (show ln 1078 = 14400 by decide +kernel) (fun j => S00_r (by decide) (by decide))]; exact hP 36 _ rfl
  | 37, _ => show va_at G.1 vwCl (G.2.2 1079, cel G S00 1079) H; exact by rw [cel_I (show kd 1079 = 21 by decide +kernel) (show ln 1079 = 24 by decide +kernel) (fun j => S00_r (by decide) (by decide))]; exact hP 37 _ rfl
  | 38, _ => show va_at G.1 vwCl (G.2.2 1080, cel G S00 1080) H; exact by rw [cel_I (show kd 1080 = 21 by decide +kernel) (show ln 1080 = 24 by decide +kernel) (fun j => S00_r (by decide) (by decide))]; exact hP 38 _ rfl
  | 39, _ => show va_at G.1 vwCl (G.2.2 1081, cel G S00 1081) H; exact by rw [cel_I (show kd 1081 = 21 by decide +kernel) (show ln 1081 = 24 by decide +kernel) (fun j => S00_r (by decide) (by decide))]; exact hP 39 _ rfl
  | 40, _ => show va_at G.1 vwCl (G.2.2 1082, cel G S00 1082) H; exact by rw [cel_Z (show kd 1082 = 23 by decide +kernel) (show ln 1082 = 576 by decide +kernel) (fun j => S00_r (by decide) (by decide))]; exact hP 40 _ rfl
  | r + 41, h => exact absurd h (by omega)
end World2
