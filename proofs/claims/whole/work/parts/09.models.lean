/-! the models: what a run of each method must meet, out of its bytecode -/
/-- the word's number, or 2 -/
def sortW (v : Int) : Int := if v = 0x7061636B then 200 else if v = 0x6C6F61646572 then 201 else if v = 0x636C617373 then 202 else if v = 0x66616365 then 203 else if v = 0x6F66 then 204 else if v = 0x756E646572 then 205 else if v = 0x6F70656E then 206 else if v = 0x6E656172 then 207 else if v = 0x6F776E then 208 else if v = 0x737461746963 then 209 else if v = 0x6162737472616374 then 210 else if v = 0x6C656E74 then 211 else if v = 0x696E74 then 212 else if v = 0x6E6F6E65 then 213 else 2
def wX5_sortOfWord (S : St) (x0 : Int) (k : Int → Prop) : Prop := k (sortW x0)
def wX3_hasErasedKindsOf_0 (S : St) (x0 : Int) (x1 : Int) (k : Int → Prop) : Prop :=
  (¬ S x0 0 = S x1 0 → k 0) ∧ (S x0 0 = S x1 0 → (¬ S (x0 + 2) 0 = S (x1 + 2) 0 → k 0) ∧ (S (x0 + 2) 0 = S (x1 + 2) 0 → (¬ S (x0 + 2) 1 = S (x1 + 2) 1 → k 0) ∧ (S (x0 + 2) 1 = S (x1 + 2) 1 → k 1)))
def wX3_hasErasedKindsOf (S : St) (x0 : Int) (x1 : Int) (k : Int → Prop) : Prop := wX3_hasErasedKindsOf_0 S x0 x1 k
def wX0_hasTwins_27_b (S : St) (x1 : Int) (x2 : Int) (P8 : Int → Prop) (P27 : Int → Prop) (k : Int → Prop) : Prop :=
  (x1 ≤ x2 → ∀ x_2 : Int, x_2 = w32 (x1 + 1) → P8 x_2) ∧ (x2 < x1 → ∀ x_3 : Int, x_3 = S 1034 0 → isO 2 x_3 ∧ ((0 ≤ x1 ∧ x1 < 121) ∧ ∀ x_5 : Int, x_5 = x_3 + 150 + 3 * x1 → ∀ x_6 : Int, x_6 = S 1034 0 → isO 2 x_6 ∧ ((0 ≤ x2 ∧ x2 < 121) ∧ ∀ x_8 : Int, x_8 = x_6 + 150 + 3 * x2 → wX3_hasErasedKindsOf S x_5 x_8 (fun x_9 => (x_9 = 0 → ∀ x_11 : Int, x_11 = w32 (x2 + 1) → P27 x_11) ∧ (¬ x_9 = 0 → k 1)))))
def wX0_hasTwins_27 (S : St) (x1 : Int) (x2 : Int) (P8 : Int → Prop) (k : Int → Prop) : Prop :=
  wlp (fun (P : Int → Prop) (a : Int) => wX0_hasTwins_27_b S x1 a P8 (fun b0 => P (b0)) k) (x2)
def wX0_hasTwins_8_b (S : St) (x1 : Int) (P8 : Int → Prop) (k : Int → Prop) : Prop :=
  ∀ x_1 : Int, x_1 = S 1034 0 → isO 2 x_1 ∧ ((S x_1 3 ≤ x1 → k 0) ∧ (x1 < S x_1 3 → ∀ x_5 : Int, x_5 = S 1034 1 → isO 6 x_5 ∧ (∀ x_7 : Int, x_7 = S x_5 16 → wX0_hasTwins_27 S x1 x_7 P8 k)))
def wX0_hasTwins_8 (S : St) (x1 : Int) (k : Int → Prop) : Prop :=
  wlp (fun (P : Int → Prop) (a : Int) => wX0_hasTwins_8_b S a (fun b0 => P (b0)) k) (x1)
def wX0_hasTwins_0 (S : St) (k : Int → Prop) : Prop :=
  ∀ x_1 : Int, x_1 = S 1034 1 → isO 6 x_1 ∧ (∀ x_3 : Int, x_3 = S x_1 16 → wX0_hasTwins_8 S x_3 k)
def wX0_hasTwins (S : St) (k : Int → Prop) : Prop := wX0_hasTwins_0 S k
def wX0_list_49 (S : St) (x1 : Int) (x2 : Int) (k : Int → St → Prop) : Prop :=
  k (or32 x2 (shl32 1 x1)) S
def wX0_list_0 (S : St) (x1 : Int) (x2 : Int) (k : Int → St → Prop) : Prop :=
  (¬ and32 (ushr32 x2 x1) 1 = 0 → wX0_list_49 S x1 x2 k) ∧ (and32 (ushr32 x2 x1) 1 = 0 → ∀ x_5 : Int, x_5 = S 1034 1 → isO 6 x_5 ∧ ((24 ≤ S x_5 12 → wX0_list_49 S x1 x2 k) ∧ (S x_5 12 < 24 → ∀ x_9 : Int, x_9 = S 1034 1 → isO 6 x_9 ∧ (∀ x_11 : Int, x_11 = S 1034 1 → isO 6 x_11 ∧ ((0 ≤ S x_11 12 ∧ S x_11 12 < 24) ∧ (∀ S_13 : St, S_13 = up S (x_9 + 4) (S x_11 12) x1 → ∀ x_14 : Int, x_14 = S_13 1034 1 → isO 6 x_14 ∧ (∀ S_18 : St, S_18 = up S_13 x_14 12 (w32 (S_13 x_14 12 + 1)) → wX0_list_49 S_18 x1 x2 k)))))))
def wX0_list (S : St) (x1 : Int) (x2 : Int) (k : Int → St → Prop) : Prop := wX0_list_0 S x1 x2 k
def wX6_isBelow_0 (S : St) (x0 : Int) (x1 : Int) (k : Int → Prop) : Prop :=
  (and32 (ushr32 (S x0 14) x1) 1 = 0 → k 0) ∧ (¬ and32 (ushr32 (S x0 14) x1) 1 = 0 → k 1)
def wX6_isBelow (S : St) (x0 : Int) (x1 : Int) (k : Int → Prop) : Prop := wX6_isBelow_0 S x0 x1 k
def wX6_argument_0 (S : St) (x0 : Int) (x1 : Int) (x2 : Int) (k : Int → Prop) : Prop :=
  (0 ≤ w32 (w32 (x1 * 2) + x2) ∧ w32 (w32 (x1 * 2) + x2) < 48) ∧ (k (S (x0 + 5) (w32 (w32 (x1 * 2) + x2))))
def wX6_argument (S : St) (x0 : Int) (x1 : Int) (x2 : Int) (k : Int → Prop) : Prop := wX6_argument_0 S x0 x1 x2 k
def wX6_setArgument_0 (S : St) (x0 : Int) (x1 : Int) (x2 : Int) (x3 : Int) (k : St → Prop) : Prop :=
  (0 ≤ w32 (w32 (x1 * 2) + x2) ∧ w32 (w32 (x1 * 2) + x2) < 48) ∧ (∀ S_5 : St, S_5 = up S (x0 + 5) (w32 (w32 (x1 * 2) + x2)) x3 → k S_5)
def wX6_setArgument (S : St) (x0 : Int) (x1 : Int) (x2 : Int) (x3 : Int) (k : St → Prop) : Prop := wX6_setArgument_0 S x0 x1 x2 x3 k
def wX0_takeArguments_84 (S : St) (x1 : Int) (x2 : Int) (x3 : Int) (x4 : Int) (x5 : Int) (P12 : Int → St → Prop) (k : Int → St → Prop) : Prop :=
  ∀ x_1 : Int, x_1 = S 1034 1 → isO 6 x_1 ∧ (wX6_setArgument S x_1 x2 x4 x5 (fun S_2 => ∀ x_3 : Int, x_3 = w32 (x4 + 1) → P12 x_3 S_2))
def wX0_takeArguments_63 (S : St) (x1 : Int) (x2 : Int) (x3 : Int) (x4 : Int) (x5 : Int) (P12 : Int → St → Prop) (k : Int → St → Prop) : Prop :=
  (x3 = 0 → wX0_takeArguments_84 S x1 x2 x3 x4 x5 P12 k) ∧ (¬ x3 = 0 → ∀ x_2 : Int, x_2 = S 1034 1 → isO 6 x_2 ∧ (wX6_argument S x_2 x2 x4 (fun x_3 => (x_3 = x5 → wX0_takeArguments_84 S x1 x2 x3 x4 x5 P12 k) ∧ (¬ x_3 = x5 → k 0 S))))
def wX0_takeArguments_12_b (S : St) (x1 : Int) (x2 : Int) (x3 : Int) (x4 : Int) (P12 : Int → St → Prop) (k : Int → St → Prop) : Prop :=
  ∀ x_1 : Int, x_1 = S 1034 0 → isO 2 x_1 ∧ ((0 ≤ x2 ∧ x2 < 24) ∧ ∀ x_3 : Int, x_3 = x_1 + 6 + 6 * x2 → (S x_3 6 ≤ x4 → ∀ x_6 : Int, x_6 = S 1034 1 → isO 6 x_6 ∧ (∀ S_11 : St, S_11 = up S x_6 14 (or32 (S x_6 14) (shl32 1 x2)) → k 1 S_11)) ∧ (x4 < S x_3 6 → wX6_argument S x1 x2 x4 (fun x_13 => (x_13 < 100 → wX0_takeArguments_63 S x1 x2 x3 x4 x_13 P12 k) ∧ (100 ≤ x_13 → ∀ x_16 : Int, x_16 = S 1034 1 → isO 6 x_16 ∧ (wX6_argument S x_16 (S x1 0) (w32 (x_13 - 100)) (fun x_20 => wX0_takeArguments_63 S x1 x2 x3 x4 x_20 P12 k))))))
def wX0_takeArguments_12 (S : St) (x1 : Int) (x2 : Int) (x3 : Int) (x4 : Int) (k : Int → St → Prop) : Prop :=
  wlp (fun (P : Int × St → Prop) (a : Int × St) => wX0_takeArguments_12_b a.2 x1 x2 x3 a.1 (fun b0 b1 => P (b0, b1)) k) (x4, S)
def wX0_takeArguments_0 (S : St) (x1 : Int) (x2 : Int) (k : Int → St → Prop) : Prop :=
  ∀ x_1 : Int, x_1 = S 1034 1 → isO 6 x_1 ∧ (wX6_isBelow S x_1 x2 (fun x_2 => wX0_takeArguments_12 S x1 x2 x_2 0 k))
def wX0_takeArguments (S : St) (x1 : Int) (x2 : Int) (k : Int → St → Prop) : Prop := wX0_takeArguments_0 S x1 x2 k
def wX0_gatherAbove_46_b (S : St) (x1 : Int) (x2 : Int) (x3 : Int) (x4 : Int) (P4 : Int → Int → St → Prop) (P46 : Int → Int → St → Prop) (k : Int → St → Prop) : Prop :=
  (S x3 12 ≤ x4 → ∀ x_3 : Int, x_3 = w32 (x2 + 1) → P4 x1 x_3 S) ∧ (x4 < S x3 12 → (0 ≤ x4 ∧ x4 < 24) ∧ (∀ x_6 : Int, x_6 = S (x3 + 4) x4 → wX0_takeArguments S x3 x_6 (fun x_7 S_7 => (¬ x_7 = 0 → wX0_list S_7 x_6 x1 (fun x_9 S_9 => ∀ x_10 : Int, x_10 = w32 (x4 + 1) → P46 x_9 x_10 S_9)) ∧ (x_7 = 0 → k 0 S_7))))
def wX0_gatherAbove_46 (S : St) (x1 : Int) (x2 : Int) (x3 : Int) (x4 : Int) (P4 : Int → Int → St → Prop) (k : Int → St → Prop) : Prop :=
  wlp (fun (P : Int × Int × St → Prop) (a : Int × Int × St) => wX0_gatherAbove_46_b a.2.2 a.1 x2 x3 a.2.1 P4 (fun b0 b1 b2 => P (b0, b1, b2)) k) (x1, x4, S)
def wX0_gatherAbove_4_b (S : St) (x1 : Int) (x2 : Int) (P4 : Int → Int → St → Prop) (k : Int → St → Prop) : Prop :=
  ∀ x_1 : Int, x_1 = S 1034 1 → isO 6 x_1 ∧ ((S x_1 9 ≤ x2 → k 1 S) ∧ (x2 < S x_1 9 → ∀ x_5 : Int, x_5 = S 1034 0 → isO 2 x_5 ∧ (∀ x_7 : Int, x_7 = S 1034 1 → isO 6 x_7 ∧ ((0 ≤ x2 ∧ x2 < 4) ∧ ((0 ≤ S (x_7 + 3) x2 ∧ S (x_7 + 3) x2 < 24) ∧ ∀ x_10 : Int, x_10 = x_5 + 6 + 6 * (S (x_7 + 3) x2) → wX0_list S (S x_10 0) x1 (fun x_12 S_12 => wX0_gatherAbove_46 S_12 x_12 x2 x_10 0 P4 k))))))
def wX0_gatherAbove_4 (S : St) (x1 : Int) (x2 : Int) (k : Int → St → Prop) : Prop :=
  wlp (fun (P : Int × Int × St → Prop) (a : Int × Int × St) => wX0_gatherAbove_4_b a.2.2 a.1 a.2.1 (fun b0 b1 b2 => P (b0, b1, b2)) k) (x1, x2, S)
def wX0_gatherAbove_0 (S : St) (k : Int → St → Prop) : Prop :=
  wX0_gatherAbove_4 S 0 0 k
def wX0_gatherAbove (S : St) (k : Int → St → Prop) : Prop := wX0_gatherAbove_0 S k
def wX2_isUnder_0 (S : St) (x0 : Int) (x1 : Int) (x2 : Int) (k : Int → Prop) : Prop :=
  (x1 = x2 → k 1) ∧ (¬ x1 = x2 → (0 ≤ x1 ∧ x1 < 24) ∧ ∀ x_4 : Int, x_4 = x0 + 6 + 6 * x1 → (and32 (ushr32 (S x_4 14) x2) 1 = 0 → k 0) ∧ (¬ and32 (ushr32 (S x_4 14) x2) 1 = 0 → k 1))
def wX2_isUnder (S : St) (x0 : Int) (x1 : Int) (x2 : Int) (k : Int → Prop) : Prop := wX2_isUnder_0 S x0 x1 x2 k
def wX2_kindSeen_0 (S : St) (x1 : Int) (x2 : Int) (x3 : Int) (k : Int → Prop) : Prop :=
  (0 ≤ x3 ∧ x3 < 3) ∧ (∀ x_3 : Int, x_3 = S (x2 + 1) x3 → (x_3 < 100 → k x_3) ∧ (100 ≤ x_3 → (0 ≤ w32 ((w32 (w32 ((S x2 1) * 2) + x_3)) - 100) ∧ w32 ((w32 (w32 ((S x2 1) * 2) + x_3)) - 100) < 48) ∧ (k (S (x1 + 5) (w32 ((w32 (w32 ((S x2 1) * 2) + x_3)) - 100))))))
def wX2_kindSeen (S : St) (x0 : Int) (x1 : Int) (x2 : Int) (x3 : Int) (k : Int → Prop) : Prop := wX2_kindSeen_0 S x1 x2 x3 k
def wX0_gatherKinds_46_b (S : St) (x1 : Int) (x2 : Int) (x3 : Int) (P2 : Int → St → Prop) (P46 : Int → St → Prop) (k : St → Prop) : Prop :=
  (2 < x3 → ∀ x_3 : Int, x_3 = w32 (x1 + 1) → P2 x_3 S) ∧ (x3 ≤ 2 → ∀ x_8 : Int, x_8 = S 1034 0 → isO 2 x_8 ∧ (∀ x_9 : Int, x_9 = S 1034 1 → isO 6 x_9 ∧ (wX2_kindSeen S x_8 x_9 x2 x3 (fun x_10 => (0 ≤ w32 (w32 (x1 * 3) + x3) ∧ w32 (w32 (x1 * 3) + x3) < 360) ∧ (∀ S_11 : St, S_11 = up S 1035 (w32 (w32 (x1 * 3) + x3)) x_10 → ∀ x_12 : Int, x_12 = w32 (x3 + 1) → P46 x_12 S_11)))))
def wX0_gatherKinds_46 (S : St) (x1 : Int) (x2 : Int) (x3 : Int) (P2 : Int → St → Prop) (k : St → Prop) : Prop :=
  wlp (fun (P : Int × St → Prop) (a : Int × St) => wX0_gatherKinds_46_b a.2 x1 x2 a.1 P2 (fun b0 b1 => P (b0, b1)) k) (x3, S)
def wX0_gatherKinds_2_b (S : St) (x1 : Int) (P2 : Int → St → Prop) (k : St → Prop) : Prop :=
  ∀ x_1 : Int, x_1 = S 1034 0 → isO 2 x_1 ∧ ((S x_1 3 ≤ x1 → k S) ∧ (x1 < S x_1 3 → ∀ x_4 : Int, x_4 = S 1034 0 → isO 2 x_4 ∧ ((0 ≤ x1 ∧ x1 < 121) ∧ ∀ x_6 : Int, x_6 = x_4 + 150 + 3 * x1 → ∀ x_7 : Int, x_7 = S 1034 0 → isO 2 x_7 ∧ (∀ x_8 : Int, x_8 = S 1034 1 → isO 6 x_8 ∧ (wX2_isUnder S x_7 (S x_8 0) (S x_6 1) (fun x_11 => (x_11 = 0 → ∀ x_13 : Int, x_13 = w32 (x1 + 1) → P2 x_13 S) ∧ (¬ x_11 = 0 → wX0_gatherKinds_46 S x1 x_6 0 P2 k)))))))
def wX0_gatherKinds_2 (S : St) (x1 : Int) (k : St → Prop) : Prop :=
  wlp (fun (P : Int × St → Prop) (a : Int × St) => wX0_gatherKinds_2_b a.2 a.1 (fun b0 b1 => P (b0, b1)) k) (x1, S)
def wX0_gatherKinds_0 (S : St) (k : St → Prop) : Prop :=
  wX0_gatherKinds_2 S 0 k
def wX0_gatherKinds (S : St) (k : St → Prop) : Prop := wX0_gatherKinds_0 S k
def wX0_isAbove_0 (S : St) (x1 : Int) (k : Int → Prop) : Prop :=
  ∀ x_1 : Int, x_1 = S 1034 1 → isO 6 x_1 ∧ (∀ x_2 : Int, x_2 = S 1034 0 → isO 2 x_2 ∧ ((0 ≤ x1 ∧ x1 < 121) ∧ ∀ x_4 : Int, x_4 = x_2 + 150 + 3 * x1 → wX6_isBelow S x_1 (S x_4 1) (fun x_6 => (x_6 = 0 ∨ x_6 = 1) ∧ k x_6)))
def wX0_isAbove (S : St) (x1 : Int) (k : Int → Prop) : Prop := wX0_isAbove_0 S x1 k
def wX3_isFree_0 (S : St) (x0 : Int) (k : Int → Prop) : Prop :=
  (S x0 2 = 0 → k 0) ∧ (¬ S x0 2 = 0 → (S x0 3 = 1 → k 0) ∧ (¬ S x0 3 = 1 → k 1))
def wX3_isFree (S : St) (x0 : Int) (k : Int → Prop) : Prop := wX3_isFree_0 S x0 k
def wX0_gatherFree_7_b (S : St) (x1 : Int) (P7 : Int → St → Prop) (k : St → Prop) : Prop :=
  ∀ x_1 : Int, x_1 = S 1034 1 → isO 6 x_1 ∧ ((S x_1 16 ≤ x1 → k S) ∧ (x1 < S x_1 16 → wX0_isAbove S x1 (fun x_4 => (x_4 = 0 → ∀ x_6 : Int, x_6 = w32 (x1 + 1) → P7 x_6 S) ∧ (¬ x_4 = 0 → ∀ x_7 : Int, x_7 = S 1034 0 → isO 2 x_7 ∧ ((0 ≤ x1 ∧ x1 < 121) ∧ ∀ x_9 : Int, x_9 = x_7 + 150 + 3 * x1 → wX3_isFree S x_9 (fun x_10 => (x_10 = 0 → ∀ x_12 : Int, x_12 = w32 (x1 + 1) → P7 x_12 S) ∧ (¬ x_10 = 0 → (0 ≤ S 1034 4 ∧ S 1034 4 < 120) ∧ (∀ S_15 : St, S_15 = up S 1036 (S 1034 4) x1 → ∀ S_19 : St, S_19 = up S_15 1034 4 (w32 (S_15 1034 4 + 1)) → ∀ x_20 : Int, x_20 = w32 (x1 + 1) → P7 x_20 S_19))))))))
def wX0_gatherFree_7 (S : St) (x1 : Int) (k : St → Prop) : Prop :=
  wlp (fun (P : Int × St → Prop) (a : Int × St) => wX0_gatherFree_7_b a.2 a.1 (fun b0 b1 => P (b0, b1)) k) (x1, S)
def wX0_gatherFree_0 (S : St) (k : St → Prop) : Prop :=
  ∀ S_2 : St, S_2 = up S 1034 4 0 → wX0_gatherFree_7 S_2 0 k
def wX0_gatherFree (S : St) (k : St → Prop) : Prop := wX0_gatherFree_0 S k
def wX0_isAlike_0 (S : St) (x1 : Int) (x2 : Int) (k : Int → Prop) : Prop :=
  ∀ x_3 : Int, x_3 = w32 (x1 * 3) → ∀ x_6 : Int, x_6 = w32 (x2 * 3) → ∀ x_7 : Int, x_7 = S 1034 0 → isO 2 x_7 ∧ ((0 ≤ x1 ∧ x1 < 121) ∧ ∀ x_9 : Int, x_9 = x_7 + 150 + 3 * x1 → ∀ x_11 : Int, x_11 = S 1034 0 → isO 2 x_11 ∧ ((0 ≤ x2 ∧ x2 < 121) ∧ ∀ x_13 : Int, x_13 = x_11 + 150 + 3 * x2 → (¬ S x_9 0 = S x_13 0 → k 0) ∧ (S x_9 0 = S x_13 0 → (0 ≤ x_3 ∧ x_3 < 360) ∧ ((0 ≤ x_6 ∧ x_6 < 360) ∧ ((¬ S 1035 x_3 = S 1035 x_6 → k 0) ∧ (S 1035 x_3 = S 1035 x_6 → (0 ≤ w32 (x_3 + 1) ∧ w32 (x_3 + 1) < 360) ∧ ((0 ≤ w32 (x_6 + 1) ∧ w32 (x_6 + 1) < 360) ∧ ((¬ S 1035 (w32 (x_3 + 1)) = S 1035 (w32 (x_6 + 1)) → k 0) ∧ (S 1035 (w32 (x_3 + 1)) = S 1035 (w32 (x_6 + 1)) → k 1)))))))))
def wX0_isAlike (S : St) (x1 : Int) (x2 : Int) (k : Int → Prop) : Prop := wX0_isAlike_0 S x1 x2 k
def wX2_samePackage_0 (S : St) (x0 : Int) (x1 : Int) (x2 : Int) (k : Int → Prop) : Prop :=
  (0 ≤ x1 ∧ x1 < 24) ∧ ∀ x_2 : Int, x_2 = x0 + 6 + 6 * x1 → (0 ≤ x2 ∧ x2 < 24) ∧ ∀ x_5 : Int, x_5 = x0 + 6 + 6 * x2 → (¬ S x_2 2 = S x_5 2 → k 0) ∧ (S x_2 2 = S x_5 2 → (0 ≤ x1 ∧ x1 < 24) ∧ ∀ x_10 : Int, x_10 = x0 + 6 + 6 * x1 → (0 ≤ x2 ∧ x2 < 24) ∧ ∀ x_13 : Int, x_13 = x0 + 6 + 6 * x2 → (¬ S x_10 3 = S x_13 3 → k 0) ∧ (S x_10 3 = S x_13 3 → k 1))
def wX2_samePackage (S : St) (x0 : Int) (x1 : Int) (x2 : Int) (k : Int → Prop) : Prop := wX2_samePackage_0 S x0 x1 x2 k
def wX0_isWithinReach_0 (S : St) (x1 : Int) (k : Int → Prop) : Prop :=
  ∀ x_1 : Int, x_1 = S 1034 0 → isO 2 x_1 ∧ ((0 ≤ x1 ∧ x1 < 121) ∧ ∀ x_3 : Int, x_3 = x_1 + 150 + 3 * x1 → (2 ≤ S x_3 2 → k 1) ∧ (S x_3 2 < 2 → ∀ x_8 : Int, x_8 = S 1034 0 → isO 2 x_8 ∧ (∀ x_9 : Int, x_9 = S 1034 1 → isO 6 x_9 ∧ (wX2_samePackage S x_8 (S x_9 0) (S x_3 1) (fun x_12 => (x_12 = 0 → k 0) ∧ (¬ x_12 = 0 → k 1))))))
def wX0_isWithinReach (S : St) (x1 : Int) (k : Int → Prop) : Prop := wX0_isWithinReach_0 S x1 k
def wX2_hasOverride_0 (S : St) (x0 : Int) (x1 : Int) (x2 : Int) (k : Int → Prop) : Prop :=
  (0 ≤ w32 (w32 (x1 * 2) + shr32 x2 6) ∧ w32 (w32 (x1 * 2) + shr32 x2 6) < 242) ∧ ((and64 (ushr64 (S (x0 + 3) (w32 (w32 (x1 * 2) + shr32 x2 6))) (and32 x2 63)) 1 = 0 → k 0) ∧ (¬ and64 (ushr64 (S (x0 + 3) (w32 (w32 (x1 * 2) + shr32 x2 6))) (and32 x2 63)) 1 = 0 → k 1))
def wX2_hasOverride (S : St) (x0 : Int) (x1 : Int) (x2 : Int) (k : Int → Prop) : Prop := wX2_hasOverride_0 S x0 x1 x2 k
def wX0_overridesBetween_4_b (S : St) (x1 : Int) (x2 : Int) (x3 : Int) (P4 : Int → Prop) (k : Int → Prop) : Prop :=
  ∀ x_1 : Int, x_1 = S 1034 1 → isO 6 x_1 ∧ ((S x_1 16 ≤ x3 → k 0) ∧ (x3 < S x_1 16 → ∀ x_5 : Int, x_5 = S 1034 0 → isO 2 x_5 ∧ (wX2_hasOverride S x_5 x1 x3 (fun x_6 => (x_6 = 0 → ∀ x_8 : Int, x_8 = w32 (x3 + 1) → P4 x_8) ∧ (¬ x_6 = 0 → ∀ x_9 : Int, x_9 = S 1034 0 → isO 2 x_9 ∧ (wX2_hasOverride S x_9 x3 x2 (fun x_10 => (x_10 = 0 → ∀ x_12 : Int, x_12 = w32 (x3 + 1) → P4 x_12) ∧ (¬ x_10 = 0 → k 1))))))))
def wX0_overridesBetween_4 (S : St) (x1 : Int) (x2 : Int) (x3 : Int) (k : Int → Prop) : Prop :=
  wlp (fun (P : Int → Prop) (a : Int) => wX0_overridesBetween_4_b S x1 x2 a (fun b0 => P (b0)) k) (x3)
def wX0_overridesBetween_0 (S : St) (x1 : Int) (x2 : Int) (k : Int → Prop) : Prop :=
  ∀ x_3 : Int, x_3 = w32 (x2 + 1) → wX0_overridesBetween_4 S x1 x2 x_3 k
def wX0_overridesBetween (S : St) (x1 : Int) (x2 : Int) (k : Int → Prop) : Prop := wX0_overridesBetween_0 S x1 x2 k
def wX2_setOverride_0 (S : St) (x0 : Int) (x1 : Int) (x2 : Int) (k : St → Prop) : Prop :=
  (0 ≤ w32 (w32 (x1 * 2) + shr32 x2 6) ∧ w32 (w32 (x1 * 2) + shr32 x2 6) < 242) ∧ ((0 ≤ w32 (w32 (x1 * 2) + shr32 x2 6) ∧ w32 (w32 (x1 * 2) + shr32 x2 6) < 242) ∧ (∀ S_13 : St, S_13 = up S (x0 + 3) (w32 (w32 (x1 * 2) + shr32 x2 6)) (or64 (S (x0 + 3) (w32 (w32 (x1 * 2) + shr32 x2 6))) (shl64 1 (and32 x2 63))) → k S_13))
def wX2_setOverride (S : St) (x0 : Int) (x1 : Int) (x2 : Int) (k : St → Prop) : Prop := wX2_setOverride_0 S x0 x1 x2 k
def wX0_markOverridesOf_44 (S : St) (x1 : Int) (x2 : Int) (x3 : Int) (P7 : Int → St → Prop) (k : St → Prop) : Prop :=
  ∀ x_1 : Int, x_1 = S 1034 0 → isO 2 x_1 ∧ (wX2_setOverride S x_1 x1 x3 (fun S_2 => ∀ x_3 : Int, x_3 = w32 (x2 + (-1)) → P7 x_3 S_2))
def wX0_markOverridesOf_7_b (S : St) (x1 : Int) (x2 : Int) (P7 : Int → St → Prop) (k : St → Prop) : Prop :=
  (x2 < 0 → k S) ∧ (0 ≤ x2 → (0 ≤ x2 ∧ x2 < 120) ∧ (∀ x_4 : Int, x_4 = S 1036 x2 → wX0_isAlike S x1 x_4 (fun x_5 => (x_5 = 0 → ∀ x_7 : Int, x_7 = w32 (x2 + (-1)) → P7 x_7 S) ∧ (¬ x_5 = 0 → wX0_isWithinReach S x_4 (fun x_8 => (¬ x_8 = 0 → wX0_markOverridesOf_44 S x1 x2 x_4 P7 k) ∧ (x_8 = 0 → wX0_overridesBetween S x1 x_4 (fun x_10 => (x_10 = 0 → ∀ x_12 : Int, x_12 = w32 (x2 + (-1)) → P7 x_12 S) ∧ (¬ x_10 = 0 → wX0_markOverridesOf_44 S x1 x2 x_4 P7 k))))))))
def wX0_markOverridesOf_7 (S : St) (x1 : Int) (x2 : Int) (k : St → Prop) : Prop :=
  wlp (fun (P : Int × St → Prop) (a : Int × St) => wX0_markOverridesOf_7_b a.2 x1 a.1 (fun b0 b1 => P (b0, b1)) k) (x2, S)
def wX0_markOverridesOf_0 (S : St) (x1 : Int) (k : St → Prop) : Prop :=
  ∀ x_4 : Int, x_4 = w32 ((S 1034 4) - 1) → wX0_markOverridesOf_7 S x1 x_4 k
def wX0_markOverridesOf (S : St) (x1 : Int) (k : St → Prop) : Prop := wX0_markOverridesOf_0 S x1 k
def wX0_markOverrides_8_b (S : St) (x1 : Int) (P8 : Int → St → Prop) (k : St → Prop) : Prop :=
  ∀ x_1 : Int, x_1 = S 1034 0 → isO 2 x_1 ∧ ((S x_1 3 ≤ x1 → k S) ∧ (x1 < S x_1 3 → ∀ x_4 : Int, x_4 = S 1034 0 → isO 2 x_4 ∧ ((0 ≤ x1 ∧ x1 < 121) ∧ ∀ x_6 : Int, x_6 = x_4 + 150 + 3 * x1 → wX3_isFree S x_6 (fun x_7 => (x_7 = 0 → ∀ x_9 : Int, x_9 = w32 (x1 + 1) → P8 x_9 S) ∧ (¬ x_7 = 0 → wX0_markOverridesOf S x1 (fun S_10 => ∀ x_11 : Int, x_11 = w32 (x1 + 1) → P8 x_11 S_10))))))
def wX0_markOverrides_8 (S : St) (x1 : Int) (k : St → Prop) : Prop :=
  wlp (fun (P : Int × St → Prop) (a : Int × St) => wX0_markOverrides_8_b a.2 a.1 (fun b0 b1 => P (b0, b1)) k) (x1, S)
def wX0_markOverrides_0 (S : St) (k : St → Prop) : Prop :=
  ∀ x_1 : Int, x_1 = S 1034 1 → isO 6 x_1 ∧ (∀ x_3 : Int, x_3 = S x_1 16 → wX0_markOverrides_8 S x_3 k)
def wX0_markOverrides (S : St) (k : St → Prop) : Prop := wX0_markOverrides_0 S k
def wX3_isOwn_0 (S : St) (x0 : Int) (k : Int → Prop) : Prop :=
  (¬ S x0 2 = 0 → k 0) ∧ (S x0 2 = 0 → k 1)
def wX3_isOwn (S : St) (x0 : Int) (k : Int → Prop) : Prop := wX3_isOwn_0 S x0 k
def wX0_standsFor_0 (S : St) (x1 : Int) (x2 : Int) (k : Int → Prop) : Prop :=
  wX0_isAbove S x2 (fun x_1 => (x_1 = 0 → k 0) ∧ (¬ x_1 = 0 → wX0_isAlike S x1 x2 (fun x_4 => (x_4 = 0 → k 0) ∧ (¬ x_4 = 0 → ∀ x_7 : Int, x_7 = S 1034 0 → isO 2 x_7 ∧ ((0 ≤ x1 ∧ x1 < 121) ∧ ∀ x_9 : Int, x_9 = x_7 + 150 + 3 * x1 → wX3_isOwn S x_9 (fun x_10 => (¬ x_10 = 0 → k 0) ∧ (x_10 = 0 → ∀ x_13 : Int, x_13 = S 1034 0 → isO 2 x_13 ∧ ((0 ≤ x2 ∧ x2 < 121) ∧ ∀ x_15 : Int, x_15 = x_13 + 150 + 3 * x2 → wX3_isOwn S x_15 (fun x_16 => (x_16 = 0 → wX0_isWithinReach S x2 (fun x_18 => (¬ x_18 = 0 → k 1) ∧ (x_18 = 0 → ∀ x_21 : Int, x_21 = S 1034 0 → isO 2 x_21 ∧ (wX2_hasOverride S x_21 x1 x2 (fun x_22 => (x_22 = 0 → k 0) ∧ (¬ x_22 = 0 → k 1)))))) ∧ (¬ x_16 = 0 → k 0))))))))))
def wX0_standsFor (S : St) (x1 : Int) (x2 : Int) (k : Int → Prop) : Prop := wX0_standsFor_0 S x1 x2 k
def wX3_isStatic_0 (S : St) (x0 : Int) (k : Int → Prop) : Prop :=
  (¬ S x0 3 = 1 → k 0) ∧ (S x0 3 = 1 → k 1)
def wX3_isStatic (S : St) (x0 : Int) (k : Int → Prop) : Prop := wX3_isStatic_0 S x0 k
def wX0_resultSeen_0 (S : St) (x1 : Int) (k : Int → Prop) : Prop :=
  (0 ≤ w32 (w32 (x1 * 3) + 2) ∧ w32 (w32 (x1 * 3) + 2) < 360) ∧ (k (S 1035 (w32 (w32 (x1 * 3) + 2))))
def wX0_resultSeen (S : St) (x1 : Int) (k : Int → Prop) : Prop := wX0_resultSeen_0 S x1 k
def wX0_isNarrow_49 (S : St) (x2 : Int) (x3 : Int) (s0 : Int) (k : Int → Prop) : Prop :=
  (s0 = 0 → k 0) ∧ (¬ s0 = 0 → ∀ x_3 : Int, x_3 = S 1034 0 → isO 2 x_3 ∧ (wX2_isUnder S x_3 x3 x2 (fun x_4 => (x_4 = 0 → k 0) ∧ (¬ x_4 = 0 → k 1))))
def wX0_isNarrow_48 (S : St) (x2 : Int) (x3 : Int) (k : Int → Prop) : Prop :=
  wX0_isNarrow_49 S x2 x3 0 k
def wX0_isNarrow_29 (S : St) (x2 : Int) (s0 : Int) (k : Int → Prop) : Prop :=
  (s0 < 0 → wX0_isNarrow_48 S x2 s0 k) ∧ (0 ≤ s0 → (x2 < 0 → wX0_isNarrow_48 S x2 s0 k) ∧ (0 ≤ x2 → (100 ≤ x2 → wX0_isNarrow_48 S x2 s0 k) ∧ (x2 < 100 → wX0_isNarrow_49 S x2 s0 1 k)))
def wX0_isNarrow_0 (S : St) (x1 : Int) (x2 : Int) (k : Int → Prop) : Prop :=
  (¬ x1 = x2 → (x1 < 100 → wX0_isNarrow_29 S x2 x1 k) ∧ (100 ≤ x1 → ∀ x_4 : Int, x_4 = S 1034 1 → isO 6 x_4 ∧ ((0 ≤ w32 (x1 - 100) ∧ w32 (x1 - 100) < 2) ∧ (wX0_isNarrow_29 S x2 (S (x_4 + 2) (w32 (x1 - 100))) k)))) ∧ (x1 = x2 → k 1)
def wX0_isNarrow (S : St) (x1 : Int) (x2 : Int) (k : Int → Prop) : Prop := wX0_isNarrow_0 S x1 x2 k
def wX0_isWrong_0 (S : St) (x1 : Int) (x2 : Int) (k : Int → Prop) : Prop :=
  ∀ x_1 : Int, x_1 = S 1034 0 → isO 2 x_1 ∧ ((0 ≤ x1 ∧ x1 < 121) ∧ ∀ x_3 : Int, x_3 = x_1 + 150 + 3 * x1 → ∀ x_4 : Int, x_4 = S 1034 0 → isO 2 x_4 ∧ ((0 ≤ x2 ∧ x2 < 121) ∧ ∀ x_6 : Int, x_6 = x_4 + 150 + 3 * x2 → wX3_isStatic S x_3 (fun x_7 => wX3_isStatic S x_6 (fun x_8 => (¬ x_7 = x_8 → k 1) ∧ (x_7 = x_8 → (S x_3 2 < S x_6 2 → k 1) ∧ (S x_6 2 ≤ S x_3 2 → wX0_resultSeen S x1 (fun x_15 => wX0_resultSeen S x2 (fun x_16 => wX0_isNarrow S x_15 x_16 (fun x_17 => (¬ x_17 = 0 → k 0) ∧ (x_17 = 0 → k 1))))))))))
def wX0_isWrong (S : St) (x1 : Int) (x2 : Int) (k : Int → Prop) : Prop := wX0_isWrong_0 S x1 x2 k
def wX0_hasWrongOverride_21_b (S : St) (x1 : Int) (x2 : Int) (P8 : Int → Prop) (P21 : Int → Prop) (k : Int → Prop) : Prop :=
  ∀ x_1 : Int, x_1 = S 1034 1 → isO 6 x_1 ∧ ((S x_1 16 ≤ x2 → ∀ x_4 : Int, x_4 = w32 (x1 + 1) → P8 x_4) ∧ (x2 < S x_1 16 → wX0_standsFor S x1 x2 (fun x_5 => (x_5 = 0 → ∀ x_7 : Int, x_7 = w32 (x2 + 1) → P21 x_7) ∧ (¬ x_5 = 0 → wX0_isWrong S x1 x2 (fun x_8 => (x_8 = 0 → ∀ x_10 : Int, x_10 = w32 (x2 + 1) → P21 x_10) ∧ (¬ x_8 = 0 → k 1))))))
def wX0_hasWrongOverride_21 (S : St) (x1 : Int) (x2 : Int) (P8 : Int → Prop) (k : Int → Prop) : Prop :=
  wlp (fun (P : Int → Prop) (a : Int) => wX0_hasWrongOverride_21_b S x1 a P8 (fun b0 => P (b0)) k) (x2)
def wX0_hasWrongOverride_8_b (S : St) (x1 : Int) (P8 : Int → Prop) (k : Int → Prop) : Prop :=
  ∀ x_1 : Int, x_1 = S 1034 0 → isO 2 x_1 ∧ ((S x_1 3 ≤ x1 → k 0) ∧ (x1 < S x_1 3 → wX0_hasWrongOverride_21 S x1 0 P8 k))
def wX0_hasWrongOverride_8 (S : St) (x1 : Int) (k : Int → Prop) : Prop :=
  wlp (fun (P : Int → Prop) (a : Int) => wX0_hasWrongOverride_8_b S a (fun b0 => P (b0)) k) (x1)
def wX0_hasWrongOverride_0 (S : St) (k : Int → Prop) : Prop :=
  ∀ x_1 : Int, x_1 = S 1034 1 → isO 6 x_1 ∧ (∀ x_3 : Int, x_3 = S x_1 16 → wX0_hasWrongOverride_8 S x_3 k)
def wX0_hasWrongOverride (S : St) (k : Int → Prop) : Prop := wX0_hasWrongOverride_0 S k
def wX0_isOverridden_8_b (S : St) (x1 : Int) (x2 : Int) (P8 : Int → Prop) (k : Int → Prop) : Prop :=
  ∀ x_1 : Int, x_1 = S 1034 0 → isO 2 x_1 ∧ ((S x_1 3 ≤ x2 → k 0) ∧ (x2 < S x_1 3 → ∀ x_5 : Int, x_5 = S 1034 0 → isO 2 x_5 ∧ (wX2_hasOverride S x_5 x2 x1 (fun x_6 => (x_6 = 0 → ∀ x_8 : Int, x_8 = w32 (x2 + 1) → P8 x_8) ∧ (¬ x_6 = 0 → k 1)))))
def wX0_isOverridden_8 (S : St) (x1 : Int) (x2 : Int) (k : Int → Prop) : Prop :=
  wlp (fun (P : Int → Prop) (a : Int) => wX0_isOverridden_8_b S x1 a (fun b0 => P (b0)) k) (x2)
def wX0_isOverridden_0 (S : St) (x1 : Int) (k : Int → Prop) : Prop :=
  ∀ x_1 : Int, x_1 = S 1034 1 → isO 6 x_1 ∧ (∀ x_3 : Int, x_3 = S x_1 16 → wX0_isOverridden_8 S x1 x_3 k)
def wX0_isOverridden (S : St) (x1 : Int) (k : Int → Prop) : Prop := wX0_isOverridden_0 S x1 k
def wX0_isQuarrel_0 (S : St) (x1 : Int) (x2 : Int) (k : Int → Prop) : Prop :=
  wX0_isAlike S x1 x2 (fun x_1 => (x_1 = 0 → k 0) ∧ (¬ x_1 = 0 → wX0_resultSeen S x1 (fun x_4 => wX0_resultSeen S x2 (fun x_5 => (x_4 = x_5 → k 0) ∧ (¬ x_4 = x_5 → wX0_isOverridden S x1 (fun x_8 => (¬ x_8 = 0 → k 0) ∧ (x_8 = 0 → wX0_isOverridden S x2 (fun x_11 => (x_11 = 0 → ∀ x_13 : Int, x_13 = S 1034 0 → isO 2 x_13 ∧ ((0 ≤ x1 ∧ x1 < 121) ∧ ∀ x_15 : Int, x_15 = x_13 + 150 + 3 * x1 → ∀ x_17 : Int, x_17 = S x_15 1 → ∀ x_18 : Int, x_18 = S 1034 0 → isO 2 x_18 ∧ ((0 ≤ x2 ∧ x2 < 121) ∧ ∀ x_20 : Int, x_20 = x_18 + 150 + 3 * x2 → ∀ x_22 : Int, x_22 = S x_20 1 → ∀ x_23 : Int, x_23 = S 1034 0 → isO 2 x_23 ∧ (wX2_isUnder S x_23 x_17 x_22 (fun x_24 => (¬ x_24 = 0 → k 0) ∧ (x_24 = 0 → ∀ x_27 : Int, x_27 = S 1034 0 → isO 2 x_27 ∧ (wX2_isUnder S x_27 x_22 x_17 (fun x_28 => (¬ x_28 = 0 → k 0) ∧ (x_28 = 0 → k 1))))))))) ∧ (¬ x_11 = 0 → k 0)))))))))
def wX0_isQuarrel (S : St) (x1 : Int) (x2 : Int) (k : Int → Prop) : Prop := wX0_isQuarrel_0 S x1 x2 k
def wX0_hasQuarrel_12_b (S : St) (x1 : Int) (x2 : Int) (P2 : Int → Prop) (P12 : Int → Prop) (k : Int → Prop) : Prop :=
  (x1 ≤ x2 → ∀ x_2 : Int, x_2 = w32 (x1 + 1) → P2 x_2) ∧ (x2 < x1 → (0 ≤ x1 ∧ x1 < 120) ∧ ((0 ≤ x2 ∧ x2 < 120) ∧ (wX0_isQuarrel S (S 1036 x1) (S 1036 x2) (fun x_7 => (x_7 = 0 → ∀ x_9 : Int, x_9 = w32 (x2 + 1) → P12 x_9) ∧ (¬ x_7 = 0 → k 1)))))
def wX0_hasQuarrel_12 (S : St) (x1 : Int) (x2 : Int) (P2 : Int → Prop) (k : Int → Prop) : Prop :=
  wlp (fun (P : Int → Prop) (a : Int) => wX0_hasQuarrel_12_b S x1 a P2 (fun b0 => P (b0)) k) (x2)
def wX0_hasQuarrel_2_b (S : St) (x1 : Int) (P2 : Int → Prop) (k : Int → Prop) : Prop :=
  (S 1034 4 ≤ x1 → k 0) ∧ (x1 < S 1034 4 → wX0_hasQuarrel_12 S x1 0 P2 k)
def wX0_hasQuarrel_2 (S : St) (x1 : Int) (k : Int → Prop) : Prop :=
  wlp (fun (P : Int → Prop) (a : Int) => wX0_hasQuarrel_2_b S a (fun b0 => P (b0)) k) (x1)
def wX0_hasQuarrel_0 (S : St) (k : Int → Prop) : Prop :=
  wX0_hasQuarrel_2 S 0 k
def wX0_hasQuarrel (S : St) (k : Int → Prop) : Prop := wX0_hasQuarrel_0 S k
def wX2_methodIn_62_b (S : St) (x0 : Int) (x2 : Int) (x4 : Int) (x5 : Int) (P62 : Int → Prop) (k : Int → Prop) : Prop :=
  (x4 ≤ x5 → k (-1)) ∧ (x5 < x4 → (0 ≤ x5 ∧ x5 < 2880) ∧ ((0 ≤ S (x0 + 5) x5 ∧ S (x0 + 5) x5 < 121) ∧ ∀ x_6 : Int, x_6 = x0 + 150 + 3 * (S (x0 + 5) x5) → (¬ S x_6 7 = x2 → ∀ x_9 : Int, x_9 = w32 (x5 + 1) → P62 x_9) ∧ (S x_6 7 = x2 → k (w32 (1000 + x5)))))
def wX2_methodIn_62 (S : St) (x0 : Int) (x2 : Int) (x4 : Int) (x5 : Int) (k : Int → Prop) : Prop :=
  wlp (fun (P : Int → Prop) (a : Int) => wX2_methodIn_62_b S x0 x2 x4 a (fun b0 => P (b0)) k) (x5)
def wX2_methodIn_16_b (S : St) (x0 : Int) (x1 : Int) (x2 : Int) (x3 : Int) (x4 : Int) (P16 : Int → Prop) (k : Int → Prop) : Prop :=
  (x3 ≤ x4 → ∀ x_5 : Int, x_5 = w32 (S x1 18 + S x1 19) → ∀ x_7 : Int, x_7 = S x1 18 → wX2_methodIn_62 S x0 x2 x_5 x_7 k) ∧ (x4 < x3 → (0 ≤ x4 ∧ x4 < 121) ∧ ∀ x_9 : Int, x_9 = x0 + 150 + 3 * x4 → (¬ S x_9 7 = x2 → ∀ x_12 : Int, x_12 = w32 (x4 + 1) → P16 x_12) ∧ (S x_9 7 = x2 → k x4))
def wX2_methodIn_16 (S : St) (x0 : Int) (x1 : Int) (x2 : Int) (x3 : Int) (x4 : Int) (k : Int → Prop) : Prop :=
  wlp (fun (P : Int → Prop) (a : Int) => wX2_methodIn_16_b S x0 x1 x2 x3 a (fun b0 => P (b0)) k) (x4)
def wX2_methodIn_0 (S : St) (x0 : Int) (x1 : Int) (x2 : Int) (k : Int → Prop) : Prop :=
  ∀ x_4 : Int, x_4 = w32 (S x1 16 + S x1 17) → ∀ x_6 : Int, x_6 = S x1 16 → wX2_methodIn_16 S x0 x1 x2 x_4 x_6 k
def wX2_methodIn (S : St) (x0 : Int) (x1 : Int) (x2 : Int) (k : Int → Prop) : Prop := wX2_methodIn_0 S x0 x1 x2 k
def wX0_makeBridge_32 (S : St) (x1 : Int) (x2 : Int) (s0 : Int) (k : St → Prop) : Prop :=
  (¬ s0 = 0 → k S) ∧ (s0 = 0 → ∀ x_2 : Int, x_2 = S 1034 0 → isO 2 x_2 ∧ ((2880 ≤ S x_2 7 → k S) ∧ (S x_2 7 < 2880 → ∀ x_6 : Int, x_6 = S 1034 0 → isO 2 x_6 ∧ (∀ x_8 : Int, x_8 = S 1034 0 → isO 2 x_8 ∧ ((0 ≤ S x_8 7 ∧ S x_8 7 < 2880) ∧ (∀ S_10 : St, S_10 = up S (x_6 + 4) (S x_8 7) x1 → ∀ x_11 : Int, x_11 = S_10 1034 0 → isO 2 x_11 ∧ (∀ x_13 : Int, x_13 = S_10 1034 0 → isO 2 x_13 ∧ ((0 ≤ S_10 x_13 7 ∧ S_10 x_13 7 < 2880) ∧ (∀ S_15 : St, S_15 = up S_10 (x_11 + 5) (S_10 x_13 7) x2 → ∀ x_16 : Int, x_16 = S_15 1034 0 → isO 2 x_16 ∧ (∀ S_20 : St, S_20 = up S_15 x_16 7 (w32 (S_15 x_16 7 + 1)) → ∀ x_21 : Int, x_21 = S_20 1034 1 → isO 6 x_21 ∧ (∀ S_25 : St, S_25 = up S_20 x_21 19 (w32 (S_20 x_21 19 + 1)) → k S_25)))))))))))
def wX0_makeBridge_0 (S : St) (x1 : Int) (x2 : Int) (k : St → Prop) : Prop :=
  ∀ x_1 : Int, x_1 = S 1034 0 → isO 2 x_1 ∧ (∀ x_2 : Int, x_2 = S 1034 1 → isO 6 x_2 ∧ (∀ x_3 : Int, x_3 = S 1034 0 → isO 2 x_3 ∧ ((0 ≤ x2 ∧ x2 < 121) ∧ ∀ x_5 : Int, x_5 = x_3 + 150 + 3 * x2 → wX2_methodIn S x_1 x_2 (S x_5 7) (fun x_7 => (x_7 = (-1) → wX0_makeBridge_32 S x1 x2 0 k) ∧ (¬ x_7 = (-1) → wX0_makeBridge_32 S x1 x2 1 k)))))
def wX0_makeBridge (S : St) (x1 : Int) (x2 : Int) (k : St → Prop) : Prop := wX0_makeBridge_0 S x1 x2 k
def wX0_makeBridgesTo_48_b (S : St) (x1 : Int) (x2 : Int) (x4 : Int) (x5 : Int) (P2 : Int → St → Prop) (P48 : Int → St → Prop) (k : St → Prop) : Prop :=
  (x4 ≤ x5 → ∀ x_2 : Int, x_2 = w32 (x2 + 1) → P2 x_2 S) ∧ (x5 < x4 → ∀ x_3 : Int, x_3 = S 1034 0 → isO 2 x_3 ∧ (wX2_hasOverride S x_3 x1 x5 (fun x_4 => (x_4 = 0 → ∀ x_6 : Int, x_6 = w32 (x5 + 1) → P48 x_6 S) ∧ (¬ x_4 = 0 → wX0_makeBridge S x1 x5 (fun S_7 => ∀ x_8 : Int, x_8 = w32 (x5 + 1) → P48 x_8 S_7)))))
def wX0_makeBridgesTo_48 (S : St) (x1 : Int) (x2 : Int) (x4 : Int) (x5 : Int) (P2 : Int → St → Prop) (k : St → Prop) : Prop :=
  wlp (fun (P : Int × St → Prop) (a : Int × St) => wX0_makeBridgesTo_48_b a.2 x1 x2 x4 a.1 P2 (fun b0 b1 => P (b0, b1)) k) (x5, S)
def wX0_makeBridgesTo_2_b (S : St) (x1 : Int) (x2 : Int) (P2 : Int → St → Prop) (k : St → Prop) : Prop :=
  ∀ x_1 : Int, x_1 = S 1034 1 → isO 6 x_1 ∧ ((S x_1 12 ≤ x2 → k S) ∧ (x2 < S x_1 12 → ∀ x_4 : Int, x_4 = S 1034 0 → isO 2 x_4 ∧ (∀ x_6 : Int, x_6 = S 1034 1 → isO 6 x_6 ∧ ((0 ≤ x2 ∧ x2 < 24) ∧ ((0 ≤ S (x_6 + 4) x2 ∧ S (x_6 + 4) x2 < 24) ∧ ∀ x_9 : Int, x_9 = x_4 + 6 + 6 * (S (x_6 + 4) x2) → ∀ x_13 : Int, x_13 = w32 (S x_9 16 + S x_9 17) → ∀ x_15 : Int, x_15 = S x_9 16 → wX0_makeBridgesTo_48 S x1 x2 x_13 x_15 P2 k)))))
def wX0_makeBridgesTo_2 (S : St) (x1 : Int) (x2 : Int) (k : St → Prop) : Prop :=
  wlp (fun (P : Int × St → Prop) (a : Int × St) => wX0_makeBridgesTo_2_b a.2 x1 a.1 (fun b0 b1 => P (b0, b1)) k) (x2, S)
def wX0_makeBridgesTo_0 (S : St) (x1 : Int) (k : St → Prop) : Prop :=
  wX0_makeBridgesTo_2 S x1 0 k
def wX0_makeBridgesTo (S : St) (x1 : Int) (k : St → Prop) : Prop := wX0_makeBridgesTo_0 S x1 k
def wX0_makeBridges_22_b (S : St) (x1 : Int) (P22 : Int → St → Prop) (k : St → Prop) : Prop :=
  ∀ x_1 : Int, x_1 = S 1034 0 → isO 2 x_1 ∧ ((S x_1 3 ≤ x1 → k S) ∧ (x1 < S x_1 3 → ∀ x_4 : Int, x_4 = S 1034 0 → isO 2 x_4 ∧ ((0 ≤ x1 ∧ x1 < 121) ∧ ∀ x_6 : Int, x_6 = x_4 + 150 + 3 * x1 → wX3_isFree S x_6 (fun x_7 => (x_7 = 0 → ∀ x_9 : Int, x_9 = w32 (x1 + 1) → P22 x_9 S) ∧ (¬ x_7 = 0 → (S x_6 3 = 2 → ∀ x_13 : Int, x_13 = w32 (x1 + 1) → P22 x_13 S) ∧ (¬ S x_6 3 = 2 → wX0_makeBridgesTo S x1 (fun S_14 => ∀ x_15 : Int, x_15 = w32 (x1 + 1) → P22 x_15 S_14)))))))
def wX0_makeBridges_22 (S : St) (x1 : Int) (k : St → Prop) : Prop :=
  wlp (fun (P : Int × St → Prop) (a : Int × St) => wX0_makeBridges_22_b a.2 a.1 (fun b0 b1 => P (b0, b1)) k) (x1, S)
def wX0_makeBridges_0 (S : St) (k : St → Prop) : Prop :=
  ∀ x_1 : Int, x_1 = S 1034 1 → isO 6 x_1 ∧ (∀ x_2 : Int, x_2 = S 1034 0 → isO 2 x_2 ∧ (∀ S_4 : St, S_4 = up S x_1 18 (S x_2 7) → ∀ x_5 : Int, x_5 = S_4 1034 1 → isO 6 x_5 ∧ (∀ x_7 : Int, x_7 = S_4 x_5 16 → wX0_makeBridges_22 S_4 x_7 k)))
def wX0_makeBridges (S : St) (k : St → Prop) : Prop := wX0_makeBridges_0 S k
def wX0_close_0 (S : St) (x1 : Int) (x2 : Int) (k : Int → St → Prop) : Prop :=
  ∀ S_1 : St, S_1 = up S 1034 0 x1 → ∀ S_2 : St, S_2 = up S_1 1034 1 x2 → wX0_hasTwins S_2 (fun x_3 => (x_3 = 0 → wX0_gatherAbove S_2 (fun x_5 S_5 => (¬ x_5 = 0 → wX0_gatherKinds S_5 (fun S_7 => wX0_gatherFree S_7 (fun S_8 => wX0_markOverrides S_8 (fun S_9 => wX0_hasWrongOverride S_9 (fun x_10 => (x_10 = 0 → wX0_hasQuarrel S_9 (fun x_12 => (x_12 = 0 → wX0_makeBridges S_9 (fun S_14 => k 0 S_14)) ∧ (¬ x_12 = 0 → k 10 S_9))) ∧ (¬ x_10 = 0 → k 9 S_9)))))) ∧ (x_5 = 0 → k 8 S_5))) ∧ (¬ x_3 = 0 → k 7 S_2))
def wX0_close (S : St) (x1 : Int) (x2 : Int) (k : Int → St → Prop) : Prop := wX0_close_0 S x1 x2 k
def wX1_open_0 (S : St) (x1 : Int) (k : St → Prop) : Prop :=
  ∀ S_1 : St, S_1 = up S 1037 0 x1 → k S_1
def wX1_open (S : St) (x1 : Int) (k : St → Prop) : Prop := wX1_open_0 S x1 k
def wX1_memberOf_0 (S : St) (x1 : Int) (k : Int → Prop) : Prop :=
  ∀ x_1 : Int, x_1 = S 1037 0 → isO 2 x_1 ∧ ((1000 ≤ x1 → ∀ x_5 : Int, x_5 = S 1037 0 → isO 2 x_5 ∧ ((0 ≤ w32 (x1 - 1000) ∧ w32 (x1 - 1000) < 2880) ∧ ((0 ≤ S (x_5 + 4) (w32 (x1 - 1000)) ∧ S (x_5 + 4) (w32 (x1 - 1000)) < 121) ∧ ∀ x_10 : Int, x_10 = x_1 + 150 + 3 * (S (x_5 + 4) (w32 (x1 - 1000))) → k x_10))) ∧ (x1 < 1000 → (0 ≤ x1 ∧ x1 < 121) ∧ ∀ x_11 : Int, x_11 = x_1 + 150 + 3 * x1 → k x_11))
def wX1_memberOf (S : St) (x1 : Int) (k : Int → Prop) : Prop := wX1_memberOf_0 S x1 k
def wX1_isAbstract_0 (S : St) (x1 : Int) (k : Int → Prop) : Prop :=
  wX1_memberOf S x1 (fun x_1 => (¬ S x_1 3 = 2 → k 0) ∧ (S x_1 3 = 2 → k 1))
def wX1_isAbstract (S : St) (x1 : Int) (k : Int → Prop) : Prop := wX1_isAbstract_0 S x1 k
def wX6_isFace_0 (S : St) (x0 : Int) (k : Int → Prop) : Prop :=
  (¬ S x0 4 = 2 → k 0) ∧ (S x0 4 = 2 → k 1)
def wX6_isFace (S : St) (x0 : Int) (k : Int → Prop) : Prop := wX6_isFace_0 S x0 k
def wX1_gatherFaces_108 (S : St) (x2 : Int) (x3 : Int) (x5 : Int) (s0 : Int) (P60 : Int → St → Prop) (k : St → Prop) : Prop :=
  (s0 = (-1) → ∀ x_3 : Int, x_3 = w32 (x5 + 1) → P60 x_3 S) ∧ (¬ s0 = (-1) → wX1_memberOf S s0 (fun x_4 => wX3_isFree S x_4 (fun x_5 => (x_5 = 0 → ∀ x_7 : Int, x_7 = w32 (x5 + 1) → P60 x_7 S) ∧ (¬ x_5 = 0 → (0 ≤ S 1037 2 ∧ S 1037 2 < 24) ∧ (∀ S_10 : St, S_10 = up S 1038 (S 1037 2) s0 → ∀ S_14 : St, S_14 = up S_10 1037 2 (w32 (S_10 1037 2 + 1)) → ∀ x_15 : Int, x_15 = w32 (x5 + 1) → P60 x_15 S_14)))))
def wX1_gatherFaces_60_b (S : St) (x2 : Int) (x3 : Int) (x5 : Int) (P60 : Int → St → Prop) (k : St → Prop) : Prop :=
  (S x3 12 ≤ x5 → k S) ∧ (x5 < S x3 12 → ∀ x_3 : Int, x_3 = S 1037 0 → isO 2 x_3 ∧ ((0 ≤ x5 ∧ x5 < 24) ∧ ((0 ≤ S (x3 + 4) x5 ∧ S (x3 + 4) x5 < 24) ∧ ∀ x_7 : Int, x_7 = x_3 + 6 + 6 * (S (x3 + 4) x5) → wX6_isFace S x_7 (fun x_8 => (x_8 = 0 → wX1_gatherFaces_108 S x2 x3 x5 (-1) P60 k) ∧ (¬ x_8 = 0 → ∀ x_11 : Int, x_11 = S 1037 0 → isO 2 x_11 ∧ (wX2_methodIn S x_11 x_7 x2 (fun x_12 => wX1_gatherFaces_108 S x2 x3 x5 x_12 P60 k)))))))
def wX1_gatherFaces_60 (S : St) (x2 : Int) (x3 : Int) (x5 : Int) (k : St → Prop) : Prop :=
  wlp (fun (P : Int × St → Prop) (a : Int × St) => wX1_gatherFaces_60_b a.2 x2 x3 a.1 (fun b0 b1 => P (b0, b1)) k) (x5, S)
def wX1_gatherFaces_35 (S : St) (x2 : Int) (x3 : Int) (s0 : Int) (k : St → Prop) : Prop :=
  (s0 = (-1) → wX1_gatherFaces_60 S x2 x3 0 k) ∧ (¬ s0 = (-1) → ∀ S_6 : St, S_6 = up S 1038 0 s0 → ∀ S_8 : St, S_8 = up S_6 1037 2 1 → k S_8)
def wX1_gatherFaces_0 (S : St) (x1 : Int) (x2 : Int) (k : St → Prop) : Prop :=
  ∀ x_1 : Int, x_1 = S 1037 0 → isO 2 x_1 ∧ ((0 ≤ x1 ∧ x1 < 24) ∧ ∀ x_3 : Int, x_3 = x_1 + 6 + 6 * x1 → ∀ S_5 : St, S_5 = up S 1037 2 0 → wX6_isFace S_5 x_3 (fun x_6 => (x_6 = 0 → wX1_gatherFaces_35 S_5 x2 x_3 (-1) k) ∧ (¬ x_6 = 0 → ∀ x_9 : Int, x_9 = S_5 1037 0 → isO 2 x_9 ∧ (wX2_methodIn S_5 x_9 x_3 x2 (fun x_10 => wX1_gatherFaces_35 S_5 x2 x_3 x_10 k)))))
def wX1_gatherFaces (S : St) (x1 : Int) (x2 : Int) (k : St → Prop) : Prop := wX1_gatherFaces_0 S x1 x2 k
def wX1_isSpecific_16_b (S : St) (x1 : Int) (x2 : Int) (x3 : Int) (P16 : Int → Prop) (k : Int → Prop) : Prop :=
  (S 1037 2 ≤ x3 → k 1) ∧ (x3 < S 1037 2 → (x3 = x1 → ∀ x_5 : Int, x_5 = w32 (x3 + 1) → P16 x_5) ∧ (¬ x3 = x1 → ∀ x_6 : Int, x_6 = S 1037 0 → isO 2 x_6 ∧ ((0 ≤ x3 ∧ x3 < 24) ∧ (wX1_memberOf S (S 1038 x3) (fun x_9 => wX2_isUnder S x_6 (S x_9 1) x2 (fun x_11 => (x_11 = 0 → ∀ x_13 : Int, x_13 = w32 (x3 + 1) → P16 x_13) ∧ (¬ x_11 = 0 → k 0)))))))
def wX1_isSpecific_16 (S : St) (x1 : Int) (x2 : Int) (x3 : Int) (k : Int → Prop) : Prop :=
  wlp (fun (P : Int → Prop) (a : Int) => wX1_isSpecific_16_b S x1 x2 a (fun b0 => P (b0)) k) (x3)
def wX1_isSpecific_0 (S : St) (x1 : Int) (k : Int → Prop) : Prop :=
  (0 ≤ x1 ∧ x1 < 24) ∧ (wX1_memberOf S (S 1038 x1) (fun x_3 => ∀ x_5 : Int, x_5 = S x_3 1 → wX1_isSpecific_16 S x1 x_5 0 k))
def wX1_isSpecific (S : St) (x1 : Int) (k : Int → Prop) : Prop := wX1_isSpecific_0 S x1 k
def wX1_soleBody_5_b (S : St) (x1 : Int) (x2 : Int) (P5 : Int → Int → Prop) (k : Int → Prop) : Prop :=
  (S 1037 2 ≤ x2 → k x1) ∧ (x2 < S 1037 2 → (0 ≤ x2 ∧ x2 < 24) ∧ (wX1_isAbstract S (S 1038 x2) (fun x_5 => (¬ x_5 = 0 → ∀ x_7 : Int, x_7 = w32 (x2 + 1) → P5 x1 x_7) ∧ (x_5 = 0 → wX1_isSpecific S x2 (fun x_8 => (x_8 = 0 → ∀ x_10 : Int, x_10 = w32 (x2 + 1) → P5 x1 x_10) ∧ (¬ x_8 = 0 → (x1 = (-4) → (0 ≤ x2 ∧ x2 < 24) ∧ (∀ x_15 : Int, x_15 = S 1038 x2 → ∀ x_16 : Int, x_16 = w32 (x2 + 1) → P5 x_15 x_16)) ∧ (¬ x1 = (-4) → k (-3))))))))
def wX1_soleBody_5 (S : St) (x1 : Int) (x2 : Int) (k : Int → Prop) : Prop :=
  wlp (fun (P : Int × Int → Prop) (a : Int × Int) => wX1_soleBody_5_b S a.1 a.2 (fun b0 b1 => P (b0, b1)) k) (x1, x2)
def wX1_soleBody_0 (S : St) (k : Int → Prop) : Prop :=
  wX1_soleBody_5 S (-4) 0 k
def wX1_soleBody (S : St) (k : Int → Prop) : Prop := wX1_soleBody_0 S k
def wX1_find_80 (S : St) (x1 : Int) (x2 : Int) (k : Int → St → Prop) : Prop :=
  wX1_gatherFaces S x1 x2 (fun S_1 => wX1_soleBody S_1 (fun x_2 => (x_2 < 0 → (S_1 1037 2 ≤ 0 → k (-1) S_1) ∧ (0 < S_1 1037 2 → k (S_1 1038 0) S_1)) ∧ (0 ≤ x_2 → k x_2 S_1)))
def wX1_find_24_b (S : St) (x1 : Int) (x2 : Int) (x3 : Int) (x4 : Int) (P24 : Int → Int → Prop) (k : Int → St → Prop) : Prop :=
  (24 ≤ x4 → wX1_find_80 S x1 x2 k) ∧ (x4 < 24 → (x3 = (-1) → wX1_find_80 S x1 x2 k) ∧ (¬ x3 = (-1) → ∀ x_5 : Int, x_5 = S 1037 0 → isO 2 x_5 ∧ ((0 ≤ x3 ∧ x3 < 24) ∧ ∀ x_7 : Int, x_7 = x_5 + 6 + 6 * x3 → ∀ x_8 : Int, x_8 = S 1037 0 → isO 2 x_8 ∧ (wX2_methodIn S x_8 x_7 x2 (fun x_9 => (x_9 = (-1) → ∀ x_13 : Int, x_13 = S x_7 11 → ∀ x_14 : Int, x_14 = w32 (x4 + 1) → P24 x_13 x_14) ∧ (¬ x_9 = (-1) → k x_9 S))))))
def wX1_find_24 (S : St) (x1 : Int) (x2 : Int) (x3 : Int) (x4 : Int) (k : Int → St → Prop) : Prop :=
  wlp (fun (P : Int × Int → Prop) (a : Int × Int) => wX1_find_24_b S x1 x2 a.1 a.2 (fun b0 b1 => P (b0, b1)) k) (x3, x4)
def wX1_find_0 (S : St) (x1 : Int) (x2 : Int) (k : Int → St → Prop) : Prop :=
  ∀ x_1 : Int, x_1 = S 1037 0 → isO 2 x_1 ∧ ((0 ≤ x1 ∧ x1 < 24) ∧ ∀ x_3 : Int, x_3 = x_1 + 6 + 6 * x1 → wX6_isFace S x_3 (fun x_4 => (x_4 = 0 → wX1_find_24 S x1 x2 x1 0 k) ∧ (¬ x_4 = 0 → wX1_find_24 S x1 x2 (-1) 0 k)))
def wX1_find (S : St) (x1 : Int) (x2 : Int) (k : Int → St → Prop) : Prop := wX1_find_0 S x1 x2 k
def wX1_specificAt_12_b (S : St) (x3 : Int) (x4 : Int) (x5 : Int) (P12 : Int → Int → Prop) (k : Int → St → Prop) : Prop :=
  (S 1037 2 ≤ x5 → k (-1) S) ∧ (x5 < S 1037 2 → wX1_isSpecific S x5 (fun x_4 => (x_4 = 0 → ∀ x_6 : Int, x_6 = w32 (x5 + 1) → P12 x4 x_6) ∧ (¬ x_4 = 0 → (¬ x4 = x3 → ∀ x_8 : Int, x_8 = w32 (x4 + 1) → ∀ x_9 : Int, x_9 = w32 (x5 + 1) → P12 x_8 x_9) ∧ (x4 = x3 → (0 ≤ x5 ∧ x5 < 24) ∧ (k (S 1038 x5) S)))))
def wX1_specificAt_12 (S : St) (x3 : Int) (x4 : Int) (x5 : Int) (k : Int → St → Prop) : Prop :=
  wlp (fun (P : Int × Int → Prop) (a : Int × Int) => wX1_specificAt_12_b S x3 a.1 a.2 (fun b0 b1 => P (b0, b1)) k) (x4, x5)
def wX1_specificAt_0 (S : St) (x1 : Int) (x2 : Int) (x3 : Int) (k : Int → St → Prop) : Prop :=
  wX1_gatherFaces S x1 x2 (fun S_1 => wX1_specificAt_12 S_1 x3 0 0 k)
def wX1_specificAt (S : St) (x1 : Int) (x2 : Int) (x3 : Int) (k : Int → St → Prop) : Prop := wX1_specificAt_0 S x1 x2 x3 k
def wX2_sameNest_0 (S : St) (x0 : Int) (x1 : Int) (x2 : Int) (k : Int → Prop) : Prop :=
  (0 ≤ x1 ∧ x1 < 24) ∧ ∀ x_2 : Int, x_2 = x0 + 6 + 6 * x1 → (0 ≤ x2 ∧ x2 < 24) ∧ ∀ x_5 : Int, x_5 = x0 + 6 + 6 * x2 → (¬ S x_2 5 = S x_5 5 → k 0) ∧ (S x_2 5 = S x_5 5 → k 1)
def wX2_sameNest (S : St) (x0 : Int) (x1 : Int) (x2 : Int) (k : Int → Prop) : Prop := wX2_sameNest_0 S x0 x1 x2 k
def wX1_isNear_46 (S : St) (x1 : Int) (x3 : Int) (x4 : Int) (s0 : Int) (k : Int → Prop) : Prop :=
  wX3_isStatic S x3 (fun x_1 => (¬ x_1 = 0 → k 1) ∧ (x_1 = 0 → (s0 = 0 → k 0) ∧ (¬ s0 = 0 → ∀ x_6 : Int, x_6 = S 1037 0 → isO 2 x_6 ∧ (wX2_isUnder S x_6 x4 x1 (fun x_7 => (x_7 = 0 → k 0) ∧ (¬ x_7 = 0 → k 1))))))
def wX1_isNear_41 (S : St) (x1 : Int) (x3 : Int) (x4 : Int) (k : Int → Prop) : Prop :=
  wX1_isNear_46 S x1 x3 x4 1 k
def wX1_isNear_0 (S : St) (x1 : Int) (x2 : Int) (x3 : Int) (x4 : Int) (k : Int → Prop) : Prop :=
  ∀ x_1 : Int, x_1 = S 1037 0 → isO 2 x_1 ∧ (wX2_isUnder S x_1 x1 (S x3 1) (fun x_3 => (¬ x_3 = 0 → ∀ x_5 : Int, x_5 = S 1037 0 → isO 2 x_5 ∧ (wX2_isUnder S x_5 x2 x1 (fun x_6 => (¬ x_6 = 0 → wX1_isNear_41 S x1 x3 x4 k) ∧ (x_6 = 0 → ∀ x_8 : Int, x_8 = S 1037 0 → isO 2 x_8 ∧ (wX2_isUnder S x_8 x1 x2 (fun x_9 => (x_9 = 0 → wX1_isNear_46 S x1 x3 x4 0 k) ∧ (¬ x_9 = 0 → wX1_isNear_41 S x1 x3 x4 k))))))) ∧ (x_3 = 0 → k 0)))
def wX1_isNear (S : St) (x1 : Int) (x2 : Int) (x3 : Int) (x4 : Int) (k : Int → Prop) : Prop := wX1_isNear_0 S x1 x2 x3 x4 k
def wX1_isGranted_0 (S : St) (x1 : Int) (x2 : Int) (x3 : Int) (x4 : Int) (k : Int → Prop) : Prop :=
  wX1_memberOf S x3 (fun x_1 => (S x_1 2 = 0 → ∀ x_4 : Int, x_4 = S 1037 0 → isO 2 x_4 ∧ (wX2_sameNest S x_4 x1 (S x_1 1) (fun x_6 => (x_6 = 0 ∨ x_6 = 1) ∧ k x_6))) ∧ (S x_1 2 = 1 → ∀ x_7 : Int, x_7 = S 1037 0 → isO 2 x_7 ∧ (wX2_samePackage S x_7 x1 (S x_1 1) (fun x_9 => (x_9 = 0 ∨ x_9 = 1) ∧ k x_9))) ∧ (S x_1 2 = 2 → ∀ x_10 : Int, x_10 = S 1037 0 → isO 2 x_10 ∧ (wX2_samePackage S x_10 x1 (S x_1 1) (fun x_12 => (¬ x_12 = 0 → k 1) ∧ (x_12 = 0 → wX1_isNear S x1 x2 x_1 x4 (fun x_15 => (x_15 = 0 → k 0) ∧ (¬ x_15 = 0 → k 1)))))) ∧ (S x_1 2 = 3 → k 1) ∧ (S x_1 2 < 0 ∨ 3 < S x_1 2 → ∀ x_20 : Int, x_20 = S 1037 0 → isO 2 x_20 ∧ (wX2_samePackage S x_20 x1 (S x_1 1) (fun x_22 => (¬ x_22 = 0 → k 1) ∧ (x_22 = 0 → wX1_isNear S x1 x2 x_1 x4 (fun x_25 => (x_25 = 0 → k 0) ∧ (¬ x_25 = 0 → k 1)))))))
def wX1_isGranted (S : St) (x1 : Int) (x2 : Int) (x3 : Int) (x4 : Int) (k : Int → Prop) : Prop := wX1_isGranted_0 S x1 x2 x3 x4 k
def wX2_signatureOf_0 (S : St) (x0 : Int) (x1 : Int) (k : Int → Prop) : Prop :=
  (1000 ≤ x1 → (0 ≤ w32 (x1 - 1000) ∧ w32 (x1 - 1000) < 2880) ∧ ((0 ≤ S (x0 + 5) (w32 (x1 - 1000)) ∧ S (x0 + 5) (w32 (x1 - 1000)) < 121) ∧ ∀ x_8 : Int, x_8 = x0 + 150 + 3 * (S (x0 + 5) (w32 (x1 - 1000))) → k (S x_8 7))) ∧ (x1 < 1000 → (0 ≤ x1 ∧ x1 < 121) ∧ ∀ x_10 : Int, x_10 = x0 + 150 + 3 * x1 → k (S x_10 7))
def wX2_signatureOf (S : St) (x0 : Int) (x1 : Int) (k : Int → Prop) : Prop := wX2_signatureOf_0 S x0 x1 k
def wX1_gatherChain_10_b (S : St) (x2 : Int) (x3 : Int) (x4 : Int) (P10 : Int → Int → St → Prop) (k : St → Prop) : Prop :=
  (24 ≤ x4 → k S) ∧ (x4 < 24 → (x3 = (-1) → k S) ∧ (¬ x3 = (-1) → (0 ≤ x4 ∧ x4 < 24) ∧ (∀ S_6 : St, S_6 = up S 1039 x4 x3 → ∀ x_8 : Int, x_8 = S_6 1037 0 → isO 2 x_8 ∧ (∀ x_9 : Int, x_9 = S_6 1037 0 → isO 2 x_9 ∧ ((0 ≤ x3 ∧ x3 < 24) ∧ ∀ x_11 : Int, x_11 = x_9 + 6 + 6 * x3 → wX2_methodIn S_6 x_8 x_11 x2 (fun x_12 => (0 ≤ x4 ∧ x4 < 24) ∧ (∀ S_13 : St, S_13 = up S_6 1040 x4 x_12 → ∀ S_16 : St, S_16 = up S_13 1037 6 (w32 (x4 + 1)) → ∀ x_17 : Int, x_17 = S_16 1037 0 → isO 2 x_17 ∧ ((0 ≤ x3 ∧ x3 < 24) ∧ ∀ x_19 : Int, x_19 = x_17 + 6 + 6 * x3 → ∀ x_21 : Int, x_21 = S_16 x_19 11 → ∀ x_22 : Int, x_22 = w32 (x4 + 1) → P10 x_21 x_22 S_16))))))))
def wX1_gatherChain_10 (S : St) (x2 : Int) (x3 : Int) (x4 : Int) (k : St → Prop) : Prop :=
  wlp (fun (P : Int × Int × St → Prop) (a : Int × Int × St) => wX1_gatherChain_10_b a.2.2 x2 a.1 a.2.1 (fun b0 b1 b2 => P (b0, b1, b2)) k) (x3, x4, S)
def wX1_gatherChain_0 (S : St) (x1 : Int) (x2 : Int) (k : St → Prop) : Prop :=
  ∀ S_2 : St, S_2 = up S 1037 6 0 → wX1_gatherChain_10 S_2 x2 x1 0 k
def wX1_gatherChain (S : St) (x1 : Int) (x2 : Int) (k : St → Prop) : Prop := wX1_gatherChain_0 S x1 x2 k
def wX1_replacesBetween_4_b (S : St) (x1 : Int) (x2 : Int) (P4 : Int → Prop) (k : Int → Prop) : Prop :=
  (S 1037 6 ≤ x2 → k 0) ∧ (x2 < S 1037 6 → (0 ≤ x2 ∧ x2 < 24) ∧ ((S 1041 x2 = 0 → ∀ x_7 : Int, x_7 = w32 (x2 + 1) → P4 x_7) ∧ (¬ S 1041 x2 = 0 → (0 ≤ x2 ∧ x2 < 24) ∧ (wX1_memberOf S (S 1040 x2) (fun x_10 => (2 ≤ S x_10 2 → k 1) ∧ (S x_10 2 < 2 → ∀ x_15 : Int, x_15 = S 1037 0 → isO 2 x_15 ∧ ((0 ≤ x1 ∧ x1 < 24) ∧ ((0 ≤ x2 ∧ x2 < 24) ∧ (wX2_samePackage S x_15 (S 1039 x1) (S 1039 x2) (fun x_20 => (x_20 = 0 → ∀ x_22 : Int, x_22 = w32 (x2 + 1) → P4 x_22) ∧ (¬ x_20 = 0 → k 1)))))))))))
def wX1_replacesBetween_4 (S : St) (x1 : Int) (x2 : Int) (k : Int → Prop) : Prop :=
  wlp (fun (P : Int → Prop) (a : Int) => wX1_replacesBetween_4_b S x1 a (fun b0 => P (b0)) k) (x2)
def wX1_replacesBetween_0 (S : St) (x1 : Int) (k : Int → Prop) : Prop :=
  ∀ x_3 : Int, x_3 = w32 (x1 + 1) → wX1_replacesBetween_4 S x1 x_3 k
def wX1_replacesBetween (S : St) (x1 : Int) (k : Int → Prop) : Prop := wX1_replacesBetween_0 S x1 k
def wX1_markReplacing_93 (S : St) (x1 : Int) (x2 : Int) (x3 : Int) (s1 : Int) (s2 : Int) (P25 : Int → St → Prop) (k : St → Prop) : Prop :=
  (0 ≤ s1 ∧ s1 < 24) ∧ ((s2 = 0 ∨ s2 = 1) ∧ (∀ S_1 : St, S_1 = up S 1041 s1 s2 → ∀ x_2 : Int, x_2 = w32 (x3 + (-1)) → P25 x_2 S_1))
def wX1_markReplacing_88 (S : St) (x1 : Int) (x2 : Int) (x3 : Int) (s1 : Int) (P25 : Int → St → Prop) (k : St → Prop) : Prop :=
  wX1_markReplacing_93 S x1 x2 x3 s1 1 P25 k
def wX1_markReplacing_92 (S : St) (x1 : Int) (x2 : Int) (x3 : Int) (s1 : Int) (P25 : Int → St → Prop) (k : St → Prop) : Prop :=
  wX1_markReplacing_93 S x1 x2 x3 s1 0 P25 k
def wX1_markReplacing_25_b (S : St) (x1 : Int) (x2 : Int) (x3 : Int) (P25 : Int → St → Prop) (k : St → Prop) : Prop :=
  (x3 < 0 → k S) ∧ (0 ≤ x3 → (0 ≤ x3 ∧ x3 < 24) ∧ (∀ x_4 : Int, x_4 = S 1040 x3 → (¬ x_4 = (-1) → (x_4 = x1 → wX1_markReplacing_88 S x1 x2 x3 x3 P25 k) ∧ (¬ x_4 = x1 → wX1_memberOf S x_4 (fun x_9 => wX3_isFree S x_9 (fun x_10 => (x_10 = 0 → wX1_markReplacing_92 S x1 x2 x3 x3 P25 k) ∧ (¬ x_10 = 0 → (¬ x2 = 0 → wX1_markReplacing_88 S x1 x2 x3 x3 P25 k) ∧ (x2 = 0 → wX1_replacesBetween S x3 (fun x_13 => (x_13 = 0 → wX1_markReplacing_92 S x1 x2 x3 x3 P25 k) ∧ (¬ x_13 = 0 → wX1_markReplacing_88 S x1 x2 x3 x3 P25 k)))))))) ∧ (x_4 = (-1) → (0 ≤ x3 ∧ x3 < 24) ∧ (∀ S_17 : St, S_17 = up S 1041 x3 0 → ∀ x_18 : Int, x_18 = w32 (x3 + (-1)) → P25 x_18 S_17))))
def wX1_markReplacing_25 (S : St) (x1 : Int) (x2 : Int) (x3 : Int) (k : St → Prop) : Prop :=
  wlp (fun (P : Int × St → Prop) (a : Int × St) => wX1_markReplacing_25_b a.2 x1 x2 a.1 (fun b0 b1 => P (b0, b1)) k) (x3, S)
def wX1_markReplacing_17 (S : St) (x1 : Int) (s0 : Int) (k : St → Prop) : Prop :=
  ∀ x_4 : Int, x_4 = w32 ((S 1037 6) - 1) → wX1_markReplacing_25 S x1 s0 x_4 k
def wX1_markReplacing_0 (S : St) (x1 : Int) (k : St → Prop) : Prop :=
  wX1_memberOf S x1 (fun x_1 => (S x_1 2 < 2 → wX1_markReplacing_17 S x1 0 k) ∧ (2 ≤ S x_1 2 → wX1_markReplacing_17 S x1 1 k))
def wX1_markReplacing (S : St) (x1 : Int) (k : St → Prop) : Prop := wX1_markReplacing_0 S x1 k
def wX1_select_36_b (S : St) (x2 : Int) (x3 : Int) (x4 : Int) (P36 : Int → Prop) (k : Int → St → Prop) : Prop :=
  (S 1037 6 ≤ x4 → wX1_gatherFaces S x2 x3 (fun S_3 => wX1_soleBody S_3 (fun x_4 => k x_4 S_3))) ∧ (x4 < S 1037 6 → (0 ≤ x4 ∧ x4 < 24) ∧ ((S 1041 x4 = 0 → ∀ x_8 : Int, x_8 = w32 (x4 + 1) → P36 x_8) ∧ (¬ S 1041 x4 = 0 → (0 ≤ x4 ∧ x4 < 24) ∧ (wX1_isAbstract S (S 1040 x4) (fun x_11 => (x_11 = 0 → (0 ≤ x4 ∧ x4 < 24) ∧ (k (S 1040 x4) S)) ∧ (¬ x_11 = 0 → k (-4) S))))))
def wX1_select_36 (S : St) (x2 : Int) (x3 : Int) (x4 : Int) (k : Int → St → Prop) : Prop :=
  wlp (fun (P : Int → Prop) (a : Int) => wX1_select_36_b S x2 x3 a (fun b0 => P (b0)) k) (x4)
def wX1_select_0 (S : St) (x1 : Int) (x2 : Int) (k : Int → St → Prop) : Prop :=
  wX1_memberOf S x1 (fun x_1 => wX3_isOwn S x_1 (fun x_2 => (x_2 = 0 → ∀ x_4 : Int, x_4 = S 1037 0 → isO 2 x_4 ∧ (wX2_signatureOf S x_4 x1 (fun x_5 => wX1_gatherChain S x2 x_5 (fun S_6 => wX1_markReplacing S_6 x1 (fun S_7 => wX1_select_36 S_7 x2 x_5 0 k))))) ∧ (¬ x_2 = 0 → k x1 S)))
def wX1_select (S : St) (x1 : Int) (x2 : Int) (k : Int → St → Prop) : Prop := wX1_select_0 S x1 x2 k
def wX6_hasRef_2_b (S : St) (x0 : Int) (x1 : Int) (x2 : Int) (P2 : Int → Prop) (k : Int → Prop) : Prop :=
  (S x0 9 ≤ x2 → k 0) ∧ (x2 < S x0 9 → (0 ≤ x2 ∧ x2 < 4) ∧ ((¬ S (x0 + 3) x2 = x1 → ∀ x_7 : Int, x_7 = w32 (x2 + 1) → P2 x_7) ∧ (S (x0 + 3) x2 = x1 → k 1)))
def wX6_hasRef_2 (S : St) (x0 : Int) (x1 : Int) (x2 : Int) (k : Int → Prop) : Prop :=
  wlp (fun (P : Int → Prop) (a : Int) => wX6_hasRef_2_b S x0 x1 a (fun b0 => P (b0)) k) (x2)
def wX6_hasRef_0 (S : St) (x0 : Int) (x1 : Int) (k : Int → Prop) : Prop :=
  wX6_hasRef_2 S x0 x1 0 k
def wX6_hasRef (S : St) (x0 : Int) (x1 : Int) (k : Int → Prop) : Prop := wX6_hasRef_0 S x0 x1 k
def wX1_fitsSort_0 (S : St) (x1 : Int) (x2 : Int) (x3 : Int) (k : Int → Prop) : Prop :=
  ∀ x_1 : Int, x_1 = S 1037 0 → isO 2 x_1 ∧ ((0 ≤ x3 ∧ x3 < 24) ∧ ∀ x_3 : Int, x_3 = x_1 + 6 + 6 * x3 → wX6_isFace S x_3 (fun x_4 => (x1 = 0 → (¬ x_4 = 0 → k 0) ∧ (x_4 = 0 → k 1)) ∧ (x1 = 1 → (x_4 = 0 ∨ x_4 = 1) ∧ k x_4) ∧ (x1 = 2 → (x_4 = 0 → k 1) ∧ (¬ x_4 = 0 → ∀ x_11 : Int, x_11 = S 1037 0 → isO 2 x_11 ∧ ((0 ≤ x2 ∧ x2 < 24) ∧ ∀ x_13 : Int, x_13 = x_11 + 6 + 6 * x2 → wX6_hasRef S x_13 x3 (fun x_14 => (x_14 = 0 → k 0) ∧ (¬ x_14 = 0 → k 1))))) ∧ (x1 < 0 ∨ 2 < x1 → k 1)))
def wX1_fitsSort (S : St) (x1 : Int) (x2 : Int) (x3 : Int) (k : Int → Prop) : Prop := wX1_fitsSort_0 S x1 x2 x3 k
def wX1_placeOfSearch_36 (S : St) (x1 : Int) (x2 : Int) (x3 : Int) (s0 : Int) (k : Int → Prop) : Prop :=
  ∀ x_1 : Int, x_1 = S 1037 0 → isO 2 x_1 ∧ ((0 ≤ x2 ∧ x2 < 24) ∧ ∀ x_3 : Int, x_3 = x_1 + 6 + 6 * x2 → ∀ x_5 : Int, x_5 = S x_3 11 → (¬ x1 = 2 → k x3) ∧ (x1 = 2 → (s0 = 0 → k x3) ∧ (¬ s0 = 0 → (x_5 = (-1) → k x3) ∧ (¬ x_5 = (-1) → k x_5))))
def wX1_placeOfSearch_35 (S : St) (x1 : Int) (x2 : Int) (x3 : Int) (k : Int → Prop) : Prop :=
  wX1_placeOfSearch_36 S x1 x2 x3 0 k
def wX1_placeOfSearch_0 (S : St) (x1 : Int) (x2 : Int) (x3 : Int) (k : Int → Prop) : Prop :=
  ∀ x_1 : Int, x_1 = S 1037 0 → isO 2 x_1 ∧ ((0 ≤ x2 ∧ x2 < 24) ∧ ∀ x_3 : Int, x_3 = x_1 + 6 + 6 * x2 → wX6_isBelow S x_3 x3 (fun x_4 => (x_4 = 0 → wX1_placeOfSearch_35 S x1 x2 x3 k) ∧ (¬ x_4 = 0 → ∀ x_6 : Int, x_6 = S 1037 0 → isO 2 x_6 ∧ ((0 ≤ x3 ∧ x3 < 24) ∧ ∀ x_8 : Int, x_8 = x_6 + 6 + 6 * x3 → wX6_isFace S x_8 (fun x_9 => (¬ x_9 = 0 → wX1_placeOfSearch_35 S x1 x2 x3 k) ∧ (x_9 = 0 → wX1_placeOfSearch_36 S x1 x2 x3 1 k))))))
def wX1_placeOfSearch (S : St) (x1 : Int) (x2 : Int) (x3 : Int) (k : Int → Prop) : Prop := wX1_placeOfSearch_0 S x1 x2 x3 k
def wX1_fitsReceiver_0 (S : St) (x1 : Int) (x2 : Int) (x3 : Int) (x4 : Int) (k : Int → Prop) : Prop :=
  ∀ x_1 : Int, x_1 = S 1037 0 → isO 2 x_1 ∧ ((0 ≤ x4 ∧ x4 < 24) ∧ ∀ x_3 : Int, x_3 = x_1 + 6 + 6 * x4 → (S x_3 4 = 0 → (x1 = 2 → ∀ x_8 : Int, x_8 = S 1037 0 → isO 2 x_8 ∧ (wX2_isUnder S x_8 x4 x2 (fun x_9 => (x_9 = 0 → k 0) ∧ (¬ x_9 = 0 → ∀ x_12 : Int, x_12 = S 1037 0 → isO 2 x_12 ∧ ((0 ≤ x2 ∧ x2 < 24) ∧ ∀ x_14 : Int, x_14 = x_12 + 6 + 6 * x2 → wX6_isBelow S x_14 x3 (fun x_15 => (x_15 = 0 → k 0) ∧ (¬ x_15 = 0 → k 1))))))) ∧ (¬ x1 = 2 → ∀ x_19 : Int, x_19 = S 1037 0 → isO 2 x_19 ∧ (wX2_isUnder S x_19 x4 x3 (fun x_20 => (x_20 = 0 ∨ x_20 = 1) ∧ k x_20)))) ∧ (¬ S x_3 4 = 0 → k 0))
def wX1_fitsReceiver (S : St) (x1 : Int) (x2 : Int) (x3 : Int) (x4 : Int) (k : Int → Prop) : Prop := wX1_fitsReceiver_0 S x1 x2 x3 x4 k
def wX2_behind_0 (S : St) (x0 : Int) (x1 : Int) (k : Int → Prop) : Prop :=
  (1000 ≤ x1 → (0 ≤ w32 (x1 - 1000) ∧ w32 (x1 - 1000) < 2880) ∧ (k (S (x0 + 4) (w32 (x1 - 1000))))) ∧ (x1 < 1000 → k x1)
def wX2_behind (S : St) (x0 : Int) (x1 : Int) (k : Int → Prop) : Prop := wX2_behind_0 S x0 x1 k
def wX1_runThroughBridges_49 (S : St) (x3 : Int) (k : Int → St → Prop) : Prop :=
  (x3 < 1000 → k x3 S) ∧ (1000 ≤ x3 → k (-7) S)
def wX1_runThroughBridges_5_b (S : St) (x2 : Int) (x3 : Int) (x4 : Int) (P5 : Int → Int → St → Prop) (k : Int → St → Prop) : Prop :=
  (8 ≤ x4 → wX1_runThroughBridges_49 S x3 k) ∧ (x4 < 8 → (x3 < 1000 → wX1_runThroughBridges_49 S x3 k) ∧ (1000 ≤ x3 → ∀ S_8 : St, S_8 = up S 1037 7 (w32 (S 1037 7 + 1)) → ∀ x_9 : Int, x_9 = S_8 1037 0 → isO 2 x_9 ∧ (wX2_behind S_8 x_9 x3 (fun x_10 => wX1_select S_8 x_10 x2 (fun x_11 S_11 => ∀ x_12 : Int, x_12 = w32 (x4 + 1) → P5 x_11 x_12 S_11)))))
def wX1_runThroughBridges_5 (S : St) (x2 : Int) (x3 : Int) (x4 : Int) (k : Int → St → Prop) : Prop :=
  wlp (fun (P : Int × Int × St → Prop) (a : Int × Int × St) => wX1_runThroughBridges_5_b a.2.2 x2 a.1 a.2.1 (fun b0 b1 b2 => P (b0, b1, b2)) k) (x3, x4, S)
def wX1_runThroughBridges_0 (S : St) (x1 : Int) (x2 : Int) (k : Int → St → Prop) : Prop :=
  wX1_runThroughBridges_5 S x2 x1 0 k
def wX1_runThroughBridges (S : St) (x1 : Int) (x2 : Int) (k : Int → St → Prop) : Prop := wX1_runThroughBridges_0 S x1 x2 k
def wX1_judge_96 (S : St) (x1 : Int) (x2 : Int) (x3 : Int) (x5 : Int) (x6 : Int) (s0 : Int) (s1 : Int) (k : Int → St → Prop) : Prop :=
  (s0 = s1 → (¬ x1 = 3 → wX1_fitsReceiver S x1 x2 x3 x5 (fun x_4 => (¬ x_4 = 0 → (¬ x1 = 2 → wX1_select S x6 x5 (fun x_8 S_8 => wX1_runThroughBridges S_8 x_8 x5 (fun x_9 S_9 => k x_9 S_9))) ∧ (x1 = 2 → wX1_isAbstract S x6 (fun x_10 => (x_10 = 0 → wX1_runThroughBridges S x6 x5 (fun x_12 S_12 => k x_12 S_12)) ∧ (¬ x_10 = 0 → k (-4) S)))) ∧ (x_4 = 0 → k (-6) S))) ∧ (x1 = 3 → k x6 S)) ∧ (¬ s0 = s1 → k (-5) S)
def wX1_judge_68 (S : St) (x1 : Int) (x2 : Int) (x3 : Int) (x5 : Int) (x6 : Int) (s1 : Int) (s2 : Int) (s3 : Int) (s4 : Int) (k : Int → St → Prop) : Prop :=
  wX1_isGranted S s1 s2 s3 s4 (fun x_1 => (¬ x_1 = 0 → wX1_memberOf S x6 (fun x_3 => wX3_isStatic S x_3 (fun x_4 => (¬ x1 = 3 → wX1_judge_96 S x1 x2 x3 x5 x6 x_4 0 k) ∧ (x1 = 3 → wX1_judge_96 S x1 x2 x3 x5 x6 x_4 1 k)))) ∧ (x_1 = 0 → k (-2) S))
def wX1_judge_0 (S : St) (x1 : Int) (x2 : Int) (x3 : Int) (x4 : Int) (x5 : Int) (k : Int → St → Prop) : Prop :=
  ∀ S_2 : St, S_2 = up S 1037 7 0 → wX1_fitsSort S_2 x1 x2 x3 (fun x_3 => (¬ x_3 = 0 → wX1_placeOfSearch S_2 x1 x2 x3 (fun x_5 => ∀ x_6 : Int, x_6 = S_2 1037 0 → isO 2 x_6 ∧ ((0 ≤ x4 ∧ x4 < 121) ∧ ∀ x_8 : Int, x_8 = x_6 + 150 + 3 * x4 → wX1_find S_2 x_5 (S_2 x_8 7) (fun x_10 S_10 => (¬ x_10 = (-1) → (¬ x1 = 3 → wX1_judge_68 S_10 x1 x2 x3 x5 x_10 x2 x3 x_10 x5 k) ∧ (x1 = 3 → wX1_judge_68 S_10 x1 x2 x3 x5 x_10 x2 x3 x_10 x2 k)) ∧ (x_10 = (-1) → k (-1) S_10))))) ∧ (x_3 = 0 → k (-5) S_2))
def wX1_judge (S : St) (x1 : Int) (x2 : Int) (x3 : Int) (x4 : Int) (x5 : Int) (k : Int → St → Prop) : Prop := wX1_judge_0 S x1 x2 x3 x4 x5 k
def wX1_count_81 (S : St) (x1 : Int) (x2 : Int) (x3 : Int) (x4 : Int) (x5 : Int) (s0 : Int) (P5 : Int → Int → St → Prop) (k : Int → St → Prop) : Prop :=
  wX1_judge S s0 (S x5 1) (S x5 1) x4 x1 (fun x_3 S_3 => (¬ min32 x_3 0 = x2 → ∀ x_7 : Int, x_7 = w32 (x4 + 1) → P5 x3 x_7 S_3) ∧ (min32 x_3 0 = x2 → ∀ x_8 : Int, x_8 = w32 (x3 + 1) → ∀ x_9 : Int, x_9 = w32 (x4 + 1) → P5 x_8 x_9 S_3))
def wX1_count_5_b (S : St) (x1 : Int) (x2 : Int) (x3 : Int) (x4 : Int) (P5 : Int → Int → St → Prop) (k : Int → St → Prop) : Prop :=
  ∀ x_1 : Int, x_1 = S 1037 0 → isO 2 x_1 ∧ ((S x_1 3 ≤ x4 → k x3 S) ∧ (x4 < S x_1 3 → ∀ x_4 : Int, x_4 = S 1037 0 → isO 2 x_4 ∧ ((0 ≤ x4 ∧ x4 < 121) ∧ ∀ x_6 : Int, x_6 = x_4 + 150 + 3 * x4 → ∀ x_7 : Int, x_7 = S 1037 0 → isO 2 x_7 ∧ (wX2_isUnder S x_7 x1 (S x_6 1) (fun x_9 => (x_9 = 0 → ∀ x_11 : Int, x_11 = w32 (x4 + 1) → P5 x3 x_11 S) ∧ (¬ x_9 = 0 → wX3_isStatic S x_6 (fun x_12 => (x_12 = 0 → ∀ x_14 : Int, x_14 = S 1037 0 → isO 2 x_14 ∧ ((0 ≤ S x_6 1 ∧ S x_6 1 < 24) ∧ ∀ x_17 : Int, x_17 = x_14 + 6 + 6 * (S x_6 1) → wX6_isFace S x_17 (fun x_18 => (x_18 = 0 → wX1_count_81 S x1 x2 x3 x4 x_6 0 P5 k) ∧ (¬ x_18 = 0 → wX1_count_81 S x1 x2 x3 x4 x_6 1 P5 k)))) ∧ (¬ x_12 = 0 → wX1_count_81 S x1 x2 x3 x4 x_6 3 P5 k))))))))
def wX1_count_5 (S : St) (x1 : Int) (x2 : Int) (x3 : Int) (x4 : Int) (k : Int → St → Prop) : Prop :=
  wlp (fun (P : Int × Int × St → Prop) (a : Int × Int × St) => wX1_count_5_b a.2.2 x1 x2 a.1 a.2.1 (fun b0 b1 b2 => P (b0, b1, b2)) k) (x3, x4, S)
def wX1_count_0 (S : St) (x1 : Int) (x2 : Int) (k : Int → St → Prop) : Prop :=
  wX1_count_5 S x1 x2 0 0 k
def wX1_count (S : St) (x1 : Int) (x2 : Int) (k : Int → St → Prop) : Prop := wX1_count_0 S x1 x2 k
def wX2_clear_22_b (S : St) (x0 : Int) (x1 : Int) (P22 : Int → St → Prop) (k : St → Prop) : Prop :=
  (242 ≤ x1 → k S) ∧ (x1 < 242 → (0 ≤ x1 ∧ x1 < 242) ∧ (∀ S_6 : St, S_6 = up S (x0 + 3) x1 0 → ∀ x_7 : Int, x_7 = w32 (x1 + 1) → P22 x_7 S_6))
def wX2_clear_22 (S : St) (x0 : Int) (x1 : Int) (k : St → Prop) : Prop :=
  wlp (fun (P : Int × St → Prop) (a : Int × St) => wX2_clear_22_b a.2 x0 a.1 (fun b0 b1 => P (b0, b1)) k) (x1, S)
def wX2_clear_0 (S : St) (x0 : Int) (k : St → Prop) : Prop :=
  ∀ S_2 : St, S_2 = up S x0 1 0 → ∀ S_4 : St, S_4 = up S_2 x0 3 0 → ∀ S_6 : St, S_6 = up S_4 x0 7 0 → ∀ S_8 : St, S_8 = up S_6 x0 8 0 → wX2_clear_22 S_8 x0 0 k
def wX2_clear (S : St) (x0 : Int) (k : St → Prop) : Prop := wX2_clear_0 S x0 k
def wX3_clear_0 (S : St) (x0 : Int) (x1 : Int) (k : St → Prop) : Prop :=
  ∀ S_1 : St, S_1 = up S x0 1 x1 → ∀ S_3 : St, S_3 = up S_1 x0 0 0 → ∀ S_5 : St, S_5 = up S_3 x0 2 1 → ∀ S_7 : St, S_7 = up S_5 x0 3 0 → ∀ S_9 : St, S_9 = up S_7 x0 4 0 → ∀ S_13 : St, S_13 = up S_9 (x0 + 1) 0 (-9) → ∀ S_17 : St, S_17 = up S_13 (x0 + 1) 1 (-9) → ∀ S_21 : St, S_21 = up S_17 (x0 + 1) 2 (-2) → k S_21
def wX3_clear (S : St) (x0 : Int) (x1 : Int) (k : St → Prop) : Prop := wX3_clear_0 S x0 x1 k
def wX4_start_0 (S : St) (k : St → Prop) : Prop :=
  ∀ S_2 : St, S_2 = up S 1032 4 0 → ∀ S_7 : St, S_7 = up S_2 1032 5 (S_2 1029 0) → ∀ S_12 : St, S_12 = up S_7 1032 6 (S_7 1030 0) → ∀ S_14 : St, S_14 = up S_12 1032 7 0 → ∀ S_16 : St, S_16 = up S_14 1032 8 0 → ∀ S_18 : St, S_18 = up S_16 1032 9 0 → ∀ S_20 : St, S_20 = up S_18 1032 10 0 → ∀ S_22 : St, S_22 = up S_20 1032 11 0 → k S_22
def wX4_start (S : St) (k : St → Prop) : Prop := wX4_start_0 S k
def wX4_advance_26 (S : St) (k : St → Prop) : Prop :=
  (0 ≤ S 1032 4 ∧ S 1032 4 < 4001) ∧ (∀ S_5 : St, S_5 = up S 1032 5 (S 1029 (S 1032 4)) → (0 ≤ S_5 1032 4 ∧ S_5 1032 4 < 4001) ∧ (∀ S_10 : St, S_10 = up S_5 1032 6 (S_5 1030 (S_5 1032 4)) → k S_10))
def wX4_advance_0 (S : St) (k : St → Prop) : Prop :=
  (w32 ((S 1028 3) - 1) ≤ S 1032 4 → wX4_advance_26 S k) ∧ (S 1032 4 < w32 ((S 1028 3) - 1) → ∀ S_10 : St, S_10 = up S 1032 4 (w32 (S 1032 4 + 1)) → wX4_advance_26 S_10 k)
def wX4_advance (S : St) (k : St → Prop) : Prop := wX4_advance_0 S k
def wX4_fail_0 (S : St) (x1 : Int) (k : Int → St → Prop) : Prop :=
  ∀ S_1 : St, S_1 = up S 1032 7 x1 → (0 ≤ S_1 1032 4 ∧ S_1 1032 4 < 4001) ∧ (∀ S_6 : St, S_6 = up S_1 1032 8 (S_1 1031 (S_1 1032 4)) → k 0 S_6)
def wX4_fail (S : St) (x1 : Int) (k : Int → St → Prop) : Prop := wX4_fail_0 S x1 k
def wX4_misfit_14 (S : St) (s1 : Int) (k : Int → St → Prop) : Prop :=
  wX4_fail S s1 (fun x_1 S_1 => (x_1 = 0 ∨ x_1 = 1) ∧ k x_1 S_1)
def wX4_misfit_0 (S : St) (k : Int → St → Prop) : Prop :=
  (¬ S 1032 5 = 1 → wX4_misfit_14 S 2 k) ∧ (S 1032 5 = 1 → wX4_misfit_14 S 1 k)
def wX4_misfit (S : St) (k : Int → St → Prop) : Prop := wX4_misfit_0 S k
def wX6_varNamed_2_b (S : St) (x0 : Int) (x1 : Int) (x3 : Int) (P2 : Int → Prop) (k : Int → Prop) : Prop :=
  (S x0 6 ≤ x3 → k (-1)) ∧ (x3 < S x0 6 → (0 ≤ x3 ∧ x3 < 2) ∧ ((¬ S (x0 + 1) x3 = x1 → ∀ x_8 : Int, x_8 = w32 (x3 + 1) → P2 x_8) ∧ (S (x0 + 1) x3 = x1 → k x3)))
def wX6_varNamed_2 (S : St) (x0 : Int) (x1 : Int) (x3 : Int) (k : Int → Prop) : Prop :=
  wlp (fun (P : Int → Prop) (a : Int) => wX6_varNamed_2_b S x0 x1 a (fun b0 => P (b0)) k) (x3)
def wX6_varNamed_0 (S : St) (x0 : Int) (x1 : Int) (k : Int → Prop) : Prop :=
  wX6_varNamed_2 S x0 x1 0 k
def wX6_varNamed (S : St) (x0 : Int) (x1 : Int) (k : Int → Prop) : Prop := wX6_varNamed_0 S x0 x1 k
def wX4_readVar_0 (S : St) (x1 : Int) (k : Int → St → Prop) : Prop :=
  (S 1032 5 = 2 → ∀ x_4 : Int, x_4 = S 1032 12 → isO 6 x_4 ∧ (wX6_varNamed S x_4 (S 1032 6) (fun x_6 => (x_6 = (-1) → ∀ x_9 : Int, x_9 = S 1032 12 → isO 6 x_9 ∧ ((0 ≤ x1 ∧ x1 < 2) ∧ (∀ S_12 : St, S_12 = up S (x_9 + 1) x1 (S 1032 6) → ∀ x_13 : Int, x_13 = S_12 1032 12 → isO 6 x_13 ∧ ((0 ≤ x1 ∧ x1 < 2) ∧ (∀ S_16 : St, S_16 = up S_12 (x_13 + 2) x1 (-1) → ∀ x_17 : Int, x_17 = S_16 1032 12 → isO 6 x_17 ∧ (∀ x_18 : Int, x_18 = S_16 1032 12 → isO 6 x_18 ∧ (wX6_setArgument S_16 x_17 (S_16 x_18 0) x1 (w32 (100 + x1)) (fun S_22 => ∀ x_23 : Int, x_23 = S_22 1032 12 → isO 6 x_23 ∧ (∀ S_26 : St, S_26 = up S_22 x_23 6 (w32 (x1 + 1)) → wX4_advance S_26 (fun S_27 => k 1 S_27)))))))))) ∧ (¬ x_6 = (-1) → wX4_fail S 3 (fun x_30 S_30 => (x_30 = 0 ∨ x_30 = 1) ∧ k x_30 S_30))))) ∧ (¬ S 1032 5 = 2 → wX4_misfit S (fun x_31 S_31 => (x_31 = 0 ∨ x_31 = 1) ∧ k x_31 S_31))
def wX4_readVar (S : St) (x1 : Int) (k : Int → St → Prop) : Prop := wX4_readVar_0 S x1 k
def wX4_typeSeen_2_b (S : St) (x1 : Int) (x3 : Int) (P2 : Int → Prop) (k : Int → Prop) : Prop :=
  ∀ x_1 : Int, x_1 = S 1032 3 → isO 2 x_1 ∧ ((S x_1 1 ≤ x3 → k (-1)) ∧ (x3 < S x_1 1 → ∀ x_5 : Int, x_5 = S 1032 3 → isO 2 x_5 ∧ ((0 ≤ x3 ∧ x3 < 24) ∧ ∀ x_7 : Int, x_7 = x_5 + 6 + 6 * x3 → (¬ S x_7 1 = x1 → ∀ x_11 : Int, x_11 = w32 (x3 + 1) → P2 x_11) ∧ (S x_7 1 = x1 → (S x_7 3 = 0 → k x3) ∧ (¬ S x_7 3 = 0 → ∀ x_15 : Int, x_15 = S 1032 12 → isO 6 x_15 ∧ ((¬ S x_7 3 = S x_15 3 → k (-1)) ∧ (S x_7 3 = S x_15 3 → k x3)))))))
def wX4_typeSeen_2 (S : St) (x1 : Int) (x3 : Int) (k : Int → Prop) : Prop :=
  wlp (fun (P : Int → Prop) (a : Int) => wX4_typeSeen_2_b S x1 a (fun b0 => P (b0)) k) (x3)
def wX4_typeSeen_0 (S : St) (x1 : Int) (k : Int → Prop) : Prop :=
  wX4_typeSeen_2 S x1 0 k
def wX4_typeSeen (S : St) (x1 : Int) (k : Int → Prop) : Prop := wX4_typeSeen_0 S x1 k
def wX4_readBound_0 (S : St) (x1 : Int) (k : Int → St → Prop) : Prop :=
  (S 1032 5 = 205 → wX4_advance S (fun S_4 => (S_4 1032 5 = 2 → wX4_typeSeen S_4 (S_4 1032 6) (fun x_9 => (¬ x_9 = (-1) → ∀ x_12 : Int, x_12 = S_4 1032 12 → isO 6 x_12 ∧ ((0 ≤ x1 ∧ x1 < 2) ∧ (∀ S_14 : St, S_14 = up S_4 (x_12 + 2) x1 x_9 → wX4_advance S_14 (fun S_15 => k 1 S_15)))) ∧ (x_9 = (-1) → wX4_fail S_4 3 (fun x_18 S_18 => (x_18 = 0 ∨ x_18 = 1) ∧ k x_18 S_18)))) ∧ (¬ S_4 1032 5 = 2 → wX4_misfit S_4 (fun x_19 S_19 => (x_19 = 0 ∨ x_19 = 1) ∧ k x_19 S_19)))) ∧ (¬ S 1032 5 = 205 → k 1 S)
def wX4_readBound (S : St) (x1 : Int) (k : Int → St → Prop) : Prop := wX4_readBound_0 S x1 k
def wX4_take_0 (S : St) (x1 : Int) (k : Int → St → Prop) : Prop :=
  (S 1032 5 = x1 → wX4_advance S (fun S_3 => k 1 S_3)) ∧ (¬ S 1032 5 = x1 → wX4_misfit S (fun x_5 S_5 => (x_5 = 0 ∨ x_5 = 1) ∧ k x_5 S_5))
def wX4_take (S : St) (x1 : Int) (k : Int → St → Prop) : Prop := wX4_take_0 S x1 k
def wX4_readVars_67 (S : St) (k : Int → St → Prop) : Prop :=
  wX4_take S 62 (fun x_2 S_2 => (x_2 = 0 ∨ x_2 = 1) ∧ k x_2 S_2)
def wX4_readVars_17_b (S : St) (x1 : Int) (P17 : Int → St → Prop) (k : Int → St → Prop) : Prop :=
  (2 ≤ x1 → wX4_readVars_67 S k) ∧ (x1 < 2 → wX4_readVar S x1 (fun x_3 S_3 => (x_3 = 0 → k 0 S_3) ∧ (¬ x_3 = 0 → wX4_readBound S_3 x1 (fun x_6 S_6 => (¬ x_6 = 0 → (x1 = 1 → wX4_readVars_67 S_6 k) ∧ (¬ x1 = 1 → (S_6 1032 5 = 44 → wX4_advance S_6 (fun S_13 => ∀ x_14 : Int, x_14 = w32 (x1 + 1) → P17 x_14 S_13)) ∧ (¬ S_6 1032 5 = 44 → wX4_readVars_67 S_6 k))) ∧ (x_6 = 0 → k 0 S_6)))))
def wX4_readVars_17 (S : St) (x1 : Int) (k : Int → St → Prop) : Prop :=
  wlp (fun (P : Int × St → Prop) (a : Int × St) => wX4_readVars_17_b a.2 a.1 (fun b0 b1 => P (b0, b1)) k) (x1, S)
def wX4_readVars_0 (S : St) (k : Int → St → Prop) : Prop :=
  (S 1032 5 = 60 → wX4_advance S (fun S_4 => wX4_readVars_17 S_4 0 k)) ∧ (¬ S 1032 5 = 60 → k 1 S)
def wX4_readVars (S : St) (k : Int → St → Prop) : Prop := wX4_readVars_0 S k
def wX4_otherTypeSeen_0 (S : St) (x1 : Int) (k : Int → Prop) : Prop :=
  ∀ x_1 : Int, x_1 = S 1032 12 → isO 6 x_1 ∧ ((¬ x1 = S x_1 1 → wX4_typeSeen S x1 (fun x_5 => k x_5)) ∧ (x1 = S x_1 1 → k (-1)))
def wX4_otherTypeSeen (S : St) (x1 : Int) (k : Int → Prop) : Prop := wX4_otherTypeSeen_0 S x1 k
def wX4_readNest_93 (S : St) (k : Int → St → Prop) : Prop :=
  wX4_fail S 4 (fun x_2 S_2 => (x_2 = 0 ∨ x_2 = 1) ∧ k x_2 S_2)
def wX4_readNest_0 (S : St) (k : Int → St → Prop) : Prop :=
  ∀ x_1 : Int, x_1 = S 1032 12 → isO 6 x_1 ∧ (wX6_isFace S x_1 (fun x_2 => (¬ x_2 = 0 → k 1 S) ∧ (x_2 = 0 → (S 1032 5 = 204 → wX4_advance S (fun S_8 => (S_8 1032 5 = 2 → wX4_otherTypeSeen S_8 (S_8 1032 6) (fun x_13 => (¬ x_13 = (-1) → ∀ x_16 : Int, x_16 = S_8 1032 3 → isO 2 x_16 ∧ (∀ x_17 : Int, x_17 = S_8 1032 12 → isO 6 x_17 ∧ (wX2_samePackage S_8 x_16 x_13 (S_8 x_17 0) (fun x_19 => (x_19 = 0 → wX4_readNest_93 S_8 k) ∧ (¬ x_19 = 0 → ∀ x_21 : Int, x_21 = S_8 1032 3 → isO 2 x_21 ∧ ((0 ≤ x_13 ∧ x_13 < 24) ∧ ∀ x_23 : Int, x_23 = x_21 + 6 + 6 * x_13 → (S_8 x_23 5 = x_13 → ∀ x_26 : Int, x_26 = S_8 1032 12 → isO 6 x_26 ∧ (∀ S_27 : St, S_27 = up S_8 x_26 5 x_13 → wX4_advance S_27 (fun S_28 => k 1 S_28))) ∧ (¬ S_8 x_23 5 = x_13 → wX4_readNest_93 S_8 k))))))) ∧ (x_13 = (-1) → wX4_fail S_8 3 (fun x_31 S_31 => (x_31 = 0 ∨ x_31 = 1) ∧ k x_31 S_31)))) ∧ (¬ S_8 1032 5 = 2 → wX4_misfit S_8 (fun x_32 S_32 => (x_32 = 0 ∨ x_32 = 1) ∧ k x_32 S_32)))) ∧ (¬ S 1032 5 = 204 → k 1 S))))
def wX4_readNest (S : St) (k : Int → St → Prop) : Prop := wX4_readNest_0 S k
def wX4_readHead_51 (S : St) (s1 : Int) (k : Int → St → Prop) : Prop :=
  wX4_take S s1 (fun x_1 S_1 => (x_1 = 0 ∨ x_1 = 1) ∧ k x_1 S_1)
def wX4_readHead_31 (S : St) (s1 : Int) (k : Int → St → Prop) : Prop :=
  ∀ S_1 : St, S_1 = up S 1032 11 s1 → (¬ S_1 1032 5 = 58 → wX4_readHead_51 S_1 123 k) ∧ (S_1 1032 5 = 58 → wX4_readHead_51 S_1 58 k)
def wX4_readHead_0 (S : St) (k : Int → St → Prop) : Prop :=
  wX4_readVars S (fun x_1 S_1 => (x_1 = 0 → k 0 S_1) ∧ (¬ x_1 = 0 → wX4_readNest S_1 (fun x_4 S_4 => (¬ x_4 = 0 → (¬ S_4 1032 5 = 58 → wX4_readHead_31 S_4 3 k) ∧ (S_4 1032 5 = 58 → wX4_readHead_31 S_4 2 k)) ∧ (x_4 = 0 → k 0 S_4))))
def wX4_readHead (S : St) (k : Int → St → Prop) : Prop := wX4_readHead_0 S k
def wX4_readRef_101 (S : St) (k : Int → St → Prop) : Prop :=
  wX4_fail S 4 (fun x_2 S_2 => (x_2 = 0 ∨ x_2 = 1) ∧ k x_2 S_2)
def wX4_readRef_190 (S : St) (k : Int → St → Prop) : Prop :=
  wX4_advance S (fun S_1 => k 1 S_1)
def wX4_readRef_107 (S : St) (x1 : Int) (k : Int → St → Prop) : Prop :=
  ∀ x_1 : Int, x_1 = S 1032 12 → isO 6 x_1 ∧ ((S x_1 9 < 4 → ∀ x_5 : Int, x_5 = S 1032 12 → isO 6 x_5 ∧ (∀ x_7 : Int, x_7 = S 1032 12 → isO 6 x_7 ∧ ((0 ≤ S x_7 9 ∧ S x_7 9 < 4) ∧ (∀ S_10 : St, S_10 = up S (x_5 + 3) (S x_7 9) (S 1032 13) → ∀ x_11 : Int, x_11 = S_10 1032 12 → isO 6 x_11 ∧ (∀ S_15 : St, S_15 = up S_10 x_11 9 (w32 (S_10 x_11 9 + 1)) → ∀ x_16 : Int, x_16 = S_15 1032 12 → isO 6 x_16 ∧ (∀ S_22 : St, S_22 = up S_15 x_16 14 (or32 (S_15 x_16 14) (shl32 1 (S_15 1032 13))) → (x1 = 0 → wX4_readRef_190 S_22 k) ∧ (¬ x1 = 0 → ∀ x_24 : Int, x_24 = S_22 1032 12 → isO 6 x_24 ∧ (∀ S_26 : St, S_26 = up S_22 x_24 11 (S_22 1032 13) → wX4_readRef_190 S_26 k)))))))) ∧ (4 ≤ S x_1 9 → wX4_fail S 6 (fun x_28 S_28 => (x_28 = 0 ∨ x_28 = 1) ∧ k x_28 S_28)))
def wX4_readRef_62 (S : St) (s0 : Int) (k : Int → St → Prop) : Prop :=
  ∀ x_1 : Int, x_1 = S 1032 12 → isO 6 x_1 ∧ (wX6_hasRef S x_1 (S 1032 13) (fun x_3 => (¬ x_3 = 0 → wX4_readRef_101 S k) ∧ (x_3 = 0 → (s0 = 0 → wX4_readRef_107 S s0 k) ∧ (¬ s0 = 0 → ∀ x_6 : Int, x_6 = S 1032 12 → isO 6 x_6 ∧ (wX6_isFace S x_6 (fun x_7 => (¬ x_7 = 0 → wX4_readRef_101 S k) ∧ (x_7 = 0 → ∀ x_9 : Int, x_9 = S 1032 12 → isO 6 x_9 ∧ ((S x_9 9 ≤ 0 → wX4_readRef_107 S s0 k) ∧ (0 < S x_9 9 → wX4_readRef_101 S k)))))))))
def wX4_readRef_0 (S : St) (k : Int → St → Prop) : Prop :=
  (S 1032 5 = 2 → wX4_otherTypeSeen S (S 1032 6) (fun x_5 => ∀ S_6 : St, S_6 = up S 1032 13 x_5 → (¬ S_6 1032 13 = (-1) → ∀ x_10 : Int, x_10 = S_6 1032 3 → isO 2 x_10 ∧ ((0 ≤ S_6 1032 13 ∧ S_6 1032 13 < 24) ∧ ∀ x_13 : Int, x_13 = x_10 + 6 + 6 * (S_6 1032 13) → wX6_isFace S_6 x_13 (fun x_14 => (¬ x_14 = 0 → wX4_readRef_62 S_6 0 k) ∧ (x_14 = 0 → wX4_readRef_62 S_6 1 k)))) ∧ (S_6 1032 13 = (-1) → wX4_fail S_6 3 (fun x_19 S_19 => (x_19 = 0 ∨ x_19 = 1) ∧ k x_19 S_19)))) ∧ (¬ S 1032 5 = 2 → wX4_misfit S (fun x_20 S_20 => (x_20 = 0 ∨ x_20 = 1) ∧ k x_20 S_20))
def wX4_readRef (S : St) (k : Int → St → Prop) : Prop := wX4_readRef_0 S k
def wX4_kindNamed_0 (S : St) (x1 : Int) (k : Int → Prop) : Prop :=
  ∀ x_1 : Int, x_1 = S 1032 12 → isO 6 x_1 ∧ (wX6_varNamed S x_1 x1 (fun x_2 => (x_2 = (-1) → wX4_typeSeen S x1 (fun x_5 => (¬ x_5 = (-1) → k x_5) ∧ (x_5 = (-1) → k (-9)))) ∧ (¬ x_2 = (-1) → k (w32 (100 + x_2)))))
def wX4_kindNamed (S : St) (x1 : Int) (k : Int → Prop) : Prop := wX4_kindNamed_0 S x1 k
def wX4_readArguments_56 (S : St) (x2 : Int) (s0 : Int) (P13 : Int → Int → St → Prop) (k : Int → St → Prop) : Prop :=
  (¬ s0 = (-9) → ∀ x_3 : Int, x_3 = S 1032 12 → isO 6 x_3 ∧ (wX6_setArgument S x_3 (S 1032 13) x2 s0 (fun S_5 => ∀ x_8 : Int, x_8 = w32 (x2 + 1) → wX4_advance S_5 (fun S_9 => ∀ x_10 : Int, x_10 = w32 (x2 + 1) → P13 x_8 x_10 S_9)))) ∧ (s0 = (-9) → (¬ S 1032 5 = 2 → wX4_misfit S (fun x_14 S_14 => (x_14 = 0 ∨ x_14 = 1) ∧ k x_14 S_14)) ∧ (S 1032 5 = 2 → wX4_fail S 3 (fun x_16 S_16 => (x_16 = 0 ∨ x_16 = 1) ∧ k x_16 S_16)))
def wX4_readArguments_31 (S : St) (x2 : Int) (P13 : Int → Int → St → Prop) (k : Int → St → Prop) : Prop :=
  wX4_advance S (fun S_1 => (¬ S_1 1032 5 = 2 → wX4_readArguments_56 S_1 x2 (-9) P13 k) ∧ (S_1 1032 5 = 2 → wX4_kindNamed S_1 (S_1 1032 6) (fun x_7 => wX4_readArguments_56 S_1 x2 x_7 P13 k)))
def wX4_readArguments_185 (S : St) (s1 : Int) (k : Int → St → Prop) : Prop :=
  ∀ S_1 : St, S_1 = up S 1032 11 s1 → wX4_advance S_1 (fun S_2 => k 1 S_2)
def wX4_readArguments_145 (S : St) (x1 : Int) (k : Int → St → Prop) : Prop :=
  ∀ x_1 : Int, x_1 = S 1032 3 → isO 2 x_1 ∧ ((0 ≤ S 1032 13 ∧ S 1032 13 < 24) ∧ ∀ x_4 : Int, x_4 = x_1 + 6 + 6 * (S 1032 13) → (x1 = S x_4 6 → (¬ S 1032 5 = 44 → wX4_readArguments_185 S 3 k) ∧ (S 1032 5 = 44 → wX4_readArguments_185 S 2 k)) ∧ (¬ x1 = S x_4 6 → wX4_fail S 4 (fun x_13 S_13 => (x_13 = 0 ∨ x_13 = 1) ∧ k x_13 S_13)))
def wX4_readArguments_122 (S : St) (x1 : Int) (k : Int → St → Prop) : Prop :=
  (S 1032 5 = 44 → wX4_readArguments_145 S x1 k) ∧ (¬ S 1032 5 = 44 → (S 1032 5 = 123 → wX4_readArguments_145 S x1 k) ∧ (¬ S 1032 5 = 123 → wX4_misfit S (fun x_7 S_7 => (x_7 = 0 ∨ x_7 = 1) ∧ k x_7 S_7)))
def wX4_readArguments_111 (S : St) (x1 : Int) (k : Int → St → Prop) : Prop :=
  wX4_take S 62 (fun x_2 S_2 => (¬ x_2 = 0 → wX4_readArguments_122 S_2 x1 k) ∧ (x_2 = 0 → k 0 S_2))
def wX4_readArguments_13_b (S : St) (x1 : Int) (x2 : Int) (P13 : Int → Int → St → Prop) (k : Int → St → Prop) : Prop :=
  (2 ≤ x2 → wX4_readArguments_111 S x1 k) ∧ (x2 < 2 → (x2 = 0 → wX4_readArguments_31 S x2 P13 k) ∧ (¬ x2 = 0 → (¬ S 1032 5 = 44 → wX4_readArguments_111 S x1 k) ∧ (S 1032 5 = 44 → wX4_readArguments_31 S x2 P13 k)))
def wX4_readArguments_13 (S : St) (x1 : Int) (x2 : Int) (k : Int → St → Prop) : Prop :=
  wlp (fun (P : Int × Int × St → Prop) (a : Int × Int × St) => wX4_readArguments_13_b a.2.2 a.1 a.2.1 (fun b0 b1 b2 => P (b0, b1, b2)) k) (x1, x2, S)
def wX4_readArguments_0 (S : St) (k : Int → St → Prop) : Prop :=
  (¬ S 1032 5 = 60 → wX4_readArguments_122 S 0 k) ∧ (S 1032 5 = 60 → wX4_readArguments_13 S 0 0 k)
def wX4_readArguments (S : St) (k : Int → St → Prop) : Prop := wX4_readArguments_0 S k
def wX4_closeType_0 (S : St) (k : Int → St → Prop) : Prop :=
  ∀ x_2 : Int, x_2 = S 1032 3 → isO 2 x_2 ∧ (∀ x_3 : Int, x_3 = S 1032 12 → isO 6 x_3 ∧ (wX0_close S x_2 x_3 (fun x_4 S_4 => (x_4 = 0 → ∀ S_7 : St, S_7 = up S_4 1032 11 0 → wX4_advance S_7 (fun S_8 => k 1 S_8)) ∧ (¬ x_4 = 0 → wX4_fail S_4 x_4 (fun x_10 S_10 => (x_10 = 0 ∨ x_10 = 1) ∧ k x_10 S_10)))))
def wX4_closeType (S : St) (k : Int → St → Prop) : Prop := wX4_closeType_0 S k
def wX4_passFirst_24 (S : St) (k : Int → St → Prop) : Prop :=
  wX4_fail S 6 (fun x_2 S_2 => (x_2 = 0 ∨ x_2 = 1) ∧ k x_2 S_2)
def wX4_passFirst_0 (S : St) (k : Int → St → Prop) : Prop :=
  ∀ x_1 : Int, x_1 = S 1032 12 → isO 6 x_1 ∧ ((8 ≤ S x_1 17 → wX4_passFirst_24 S k) ∧ (S x_1 17 < 8 → ∀ x_5 : Int, x_5 = S 1032 3 → isO 2 x_5 ∧ ((S x_5 3 < 120 → wX4_advance S (fun S_9 => k 1 S_9)) ∧ (120 ≤ S x_5 3 → wX4_passFirst_24 S k))))
def wX4_passFirst (S : St) (k : Int → St → Prop) : Prop := wX4_passFirst_0 S k
def wX4_readAccess_59 (S : St) (s0 : Int) (s1 : Int) (k : Int → St → Prop) : Prop :=
  ∀ S_1 : St, S_1 = up S s0 2 s1 → wX4_passFirst S_1 (fun x_2 S_2 => (x_2 = 0 ∨ x_2 = 1) ∧ k x_2 S_2)
def wX4_readAccess_26 (S : St) (k : Int → St → Prop) : Prop :=
  ∀ x_1 : Int, x_1 = S 1032 14 → isO 3 x_1 ∧ ((¬ S 1032 5 = 206 → (¬ S 1032 5 = 207 → wX4_readAccess_59 S x_1 0 k) ∧ (S 1032 5 = 207 → wX4_readAccess_59 S x_1 2 k)) ∧ (S 1032 5 = 206 → wX4_readAccess_59 S x_1 3 k))
def wX4_readAccess_0 (S : St) (k : Int → St → Prop) : Prop :=
  (¬ S 1032 5 = 207 → wX4_readAccess_26 S k) ∧ (S 1032 5 = 207 → ∀ x_4 : Int, x_4 = S 1032 12 → isO 6 x_4 ∧ (wX6_isFace S x_4 (fun x_5 => (x_5 = 0 → wX4_readAccess_26 S k) ∧ (¬ x_5 = 0 → wX4_fail S 5 (fun x_8 S_8 => (x_8 = 0 ∨ x_8 = 1) ∧ k x_8 S_8)))))
def wX4_readAccess (S : St) (k : Int → St → Prop) : Prop := wX4_readAccess_0 S k
def wX4_readForm_70 (S : St) (k : Int → St → Prop) : Prop :=
  wX4_fail S 5 (fun x_2 S_2 => (x_2 = 0 ∨ x_2 = 1) ∧ k x_2 S_2)
def wX4_readForm_109 (S : St) (s0 : Int) (s1 : Int) (k : Int → St → Prop) : Prop :=
  ∀ S_1 : St, S_1 = up S s0 3 s1 → wX4_passFirst S_1 (fun x_2 S_2 => (x_2 = 0 ∨ x_2 = 1) ∧ k x_2 S_2)
def wX4_readForm_61 (S : St) (x1 : Int) (s0 : Int) (k : Int → St → Prop) : Prop :=
  (¬ x1 = 0 → wX4_readForm_70 S k) ∧ (x1 = 0 → (s0 = 0 → ∀ x_3 : Int, x_3 = S 1032 14 → isO 3 x_3 ∧ ((¬ S 1032 5 = 209 → (¬ S 1032 5 = 210 → wX4_readForm_109 S x_3 3 k) ∧ (S 1032 5 = 210 → wX4_readForm_109 S x_3 2 k)) ∧ (S 1032 5 = 209 → wX4_readForm_109 S x_3 1 k))) ∧ (¬ s0 = 0 → wX4_readForm_70 S k))
def wX4_readForm_56 (S : St) (x1 : Int) (k : Int → St → Prop) : Prop :=
  wX4_readForm_61 S x1 1 k
def wX4_readForm_60 (S : St) (x1 : Int) (k : Int → St → Prop) : Prop :=
  wX4_readForm_61 S x1 0 k
def wX4_readForm_25 (S : St) (s0 : Int) (k : Int → St → Prop) : Prop :=
  (¬ S 1032 5 = 210 → wX4_readForm_60 S s0 k) ∧ (S 1032 5 = 210 → ∀ x_4 : Int, x_4 = S 1032 12 → isO 6 x_4 ∧ ((S x_4 4 = 0 → wX4_readForm_56 S s0 k) ∧ (¬ S x_4 4 = 0 → ∀ x_7 : Int, x_7 = S 1032 14 → isO 3 x_7 ∧ (wX3_isOwn S x_7 (fun x_8 => (x_8 = 0 → wX4_readForm_60 S s0 k) ∧ (¬ x_8 = 0 → wX4_readForm_56 S s0 k))))))
def wX4_readForm_24 (S : St) (k : Int → St → Prop) : Prop :=
  wX4_readForm_25 S 0 k
def wX4_readForm_0 (S : St) (k : Int → St → Prop) : Prop :=
  (¬ S 1032 5 = 211 → wX4_readForm_24 S k) ∧ (S 1032 5 = 211 → ∀ x_4 : Int, x_4 = S 1032 12 → isO 6 x_4 ∧ (wX6_isFace S x_4 (fun x_5 => (¬ x_5 = 0 → wX4_readForm_24 S k) ∧ (x_5 = 0 → wX4_readForm_25 S 1 k))))
def wX4_readForm (S : St) (k : Int → St → Prop) : Prop := wX4_readForm_0 S k
def wX4_seesKind_46 (S : St) (x1 : Int) (s0 : Int) (k : Int → St → Prop) : Prop :=
  ∀ x_1 : Int, x_1 = S 1032 14 → isO 3 x_1 ∧ ((0 ≤ x1 ∧ x1 < 3) ∧ (∀ S_3 : St, S_3 = up S (x_1 + 1) x1 s0 → (¬ s0 = (-9) → k 1 S_3) ∧ (s0 = (-9) → wX4_fail S_3 3 (fun x_8 S_8 => (x_8 = 0 → k 0 S_8) ∧ (¬ x_8 = 0 → k 1 S_8)))))
def wX4_seesKind_23 (S : St) (x1 : Int) (k : Int → St → Prop) : Prop :=
  (¬ S 1032 5 = 212 → wX4_kindNamed S (S 1032 6) (fun x_5 => wX4_seesKind_46 S x1 x_5 k)) ∧ (S 1032 5 = 212 → wX4_seesKind_46 S x1 (-3) k)
def wX4_seesKind_0 (S : St) (x1 : Int) (k : Int → St → Prop) : Prop :=
  (S 1032 5 = 212 → wX4_seesKind_23 S x1 k) ∧ (¬ S 1032 5 = 212 → (S 1032 5 = 2 → wX4_seesKind_23 S x1 k) ∧ (¬ S 1032 5 = 2 → wX4_misfit S (fun x_7 S_7 => (x_7 = 0 ∨ x_7 = 1) ∧ k x_7 S_7)))
def wX4_seesKind (S : St) (x1 : Int) (k : Int → St → Prop) : Prop := wX4_seesKind_0 S x1 k
def wX4_readResult_47 (S : St) (k : Int → St → Prop) : Prop :=
  wX4_passFirst S (fun x_1 S_1 => (x_1 = 0 ∨ x_1 = 1) ∧ k x_1 S_1)
def wX4_readResult_20 (S : St) (k : Int → St → Prop) : Prop :=
  ∀ x_1 : Int, x_1 = S 1032 14 → isO 3 x_1 ∧ (wX3_isOwn S x_1 (fun x_2 => (x_2 = 0 → wX4_readResult_47 S k) ∧ (¬ x_2 = 0 → ∀ x_4 : Int, x_4 = S 1032 14 → isO 3 x_4 ∧ ((¬ S x_4 3 = 2 → wX4_readResult_47 S k) ∧ (S x_4 3 = 2 → wX4_fail S 5 (fun x_9 S_9 => (x_9 = 0 ∨ x_9 = 1) ∧ k x_9 S_9))))))
def wX4_readResult_0 (S : St) (k : Int → St → Prop) : Prop :=
  (S 1032 5 = 213 → wX4_readResult_20 S k) ∧ (¬ S 1032 5 = 213 → wX4_seesKind S 2 (fun x_5 S_5 => (¬ x_5 = 0 → wX4_readResult_20 S_5 k) ∧ (x_5 = 0 → k 0 S_5)))
def wX4_readResult (S : St) (k : Int → St → Prop) : Prop := wX4_readResult_0 S k
def wX4_readMemberName_0 (S : St) (k : Int → St → Prop) : Prop :=
  (S 1032 5 = 2 → ∀ x_4 : Int, x_4 = S 1032 14 → isO 3 x_4 ∧ (∀ S_6 : St, S_6 = up S x_4 0 (S 1032 6) → wX4_advance S_6 (fun S_7 => k 1 S_7))) ∧ (¬ S 1032 5 = 2 → wX4_misfit S (fun x_9 S_9 => (x_9 = 0 ∨ x_9 = 1) ∧ k x_9 S_9))
def wX4_readMemberName (S : St) (k : Int → St → Prop) : Prop := wX4_readMemberName_0 S k
def wX4_readKinds_80 (S : St) (x2 : Int) (s0 : Int) (P28 : Int → Int → St → Prop) (k : Int → St → Prop) : Prop :=
  (s0 = 0 → ∀ x_2 : Int, x_2 = w32 (x2 + 1) → P28 s0 x_2 S) ∧ (¬ s0 = 0 → wX4_advance S (fun S_3 => ∀ x_4 : Int, x_4 = w32 (x2 + 1) → P28 s0 x_4 S_3))
def wX4_readKinds_79 (S : St) (x2 : Int) (P28 : Int → Int → St → Prop) (k : Int → St → Prop) : Prop :=
  wX4_readKinds_80 S x2 0 P28 k
def wX4_readKinds_95 (S : St) (k : Int → St → Prop) : Prop :=
  wX4_take S 41 (fun x_2 S_2 => (x_2 = 0 ∨ x_2 = 1) ∧ k x_2 S_2)
def wX4_readKinds_28_b (S : St) (x1 : Int) (x2 : Int) (P28 : Int → Int → St → Prop) (k : Int → St → Prop) : Prop :=
  (2 ≤ x2 → wX4_readKinds_95 S k) ∧ (x2 < 2 → (x1 = 0 → wX4_readKinds_95 S k) ∧ (¬ x1 = 0 → wX4_seesKind S x2 (fun x_4 S_4 => (¬ x_4 = 0 → ∀ x_6 : Int, x_6 = S_4 1032 14 → isO 3 x_6 ∧ (∀ S_9 : St, S_9 = up S_4 x_6 4 (w32 (x2 + 1)) → wX4_advance S_9 (fun S_10 => (1 ≤ x2 → wX4_readKinds_79 S_10 x2 P28 k) ∧ (x2 < 1 → (¬ S_10 1032 5 = 44 → wX4_readKinds_79 S_10 x2 P28 k) ∧ (S_10 1032 5 = 44 → wX4_readKinds_80 S_10 x2 1 P28 k))))) ∧ (x_4 = 0 → k 0 S_4))))
def wX4_readKinds_28 (S : St) (x1 : Int) (x2 : Int) (k : Int → St → Prop) : Prop :=
  wlp (fun (P : Int × Int × St → Prop) (a : Int × Int × St) => wX4_readKinds_28_b a.2.2 a.1 a.2.1 (fun b0 b1 b2 => P (b0, b1, b2)) k) (x1, x2, S)
def wX4_readKinds_0 (S : St) (k : Int → St → Prop) : Prop :=
  wX4_take S 40 (fun x_2 S_2 => (¬ x_2 = 0 → (S_2 1032 5 = 41 → wX4_readKinds_28 S_2 0 0 k) ∧ (¬ S_2 1032 5 = 41 → wX4_readKinds_28 S_2 1 0 k)) ∧ (x_2 = 0 → k 0 S_2))
def wX4_readKinds (S : St) (k : Int → St → Prop) : Prop := wX4_readKinds_0 S k
def wX4_signatureOfRow_2_b (S : St) (x1 : Int) (P2 : Int → Prop) (k : Int → Prop) : Prop :=
  ∀ x_1 : Int, x_1 = S 1032 3 → isO 2 x_1 ∧ ((S x_1 3 ≤ x1 → ∀ x_4 : Int, x_4 = S 1032 3 → isO 2 x_4 ∧ (k (S x_4 3))) ∧ (x1 < S x_1 3 → ∀ x_6 : Int, x_6 = S 1032 3 → isO 2 x_6 ∧ ((0 ≤ x1 ∧ x1 < 121) ∧ ∀ x_8 : Int, x_8 = x_6 + 150 + 3 * x1 → ∀ x_9 : Int, x_9 = S 1032 14 → isO 3 x_9 ∧ (wX3_hasErasedKindsOf S x_9 x_8 (fun x_10 => (x_10 = 0 → ∀ x_12 : Int, x_12 = w32 (x1 + 1) → P2 x_12) ∧ (¬ x_10 = 0 → ∀ x_13 : Int, x_13 = S 1032 14 → isO 3 x_13 ∧ ((¬ S (x_13 + 2) 2 = S (x_8 + 2) 2 → ∀ x_21 : Int, x_21 = w32 (x1 + 1) → P2 x_21) ∧ (S (x_13 + 2) 2 = S (x_8 + 2) 2 → k x1))))))))
def wX4_signatureOfRow_2 (S : St) (x1 : Int) (k : Int → Prop) : Prop :=
  wlp (fun (P : Int → Prop) (a : Int) => wX4_signatureOfRow_2_b S a (fun b0 => P (b0)) k) (x1)
def wX4_signatureOfRow_0 (S : St) (k : Int → Prop) : Prop :=
  wX4_signatureOfRow_2 S 0 k
def wX4_signatureOfRow (S : St) (k : Int → Prop) : Prop := wX4_signatureOfRow_0 S k
def wX4_keepMember_47 (S : St) (x1 : Int) (s0 : Int) (s1 : Int) (s2 : Int) (P2 : Int → St → Prop) (k : St → Prop) : Prop :=
  (0 ≤ s1 ∧ s1 < 3) ∧ (∀ S_1 : St, S_1 = up S (s0 + 2) s1 s2 → ∀ x_2 : Int, x_2 = w32 (x1 + 1) → P2 x_2 S_1)
def wX4_keepMember_2_b (S : St) (x1 : Int) (P2 : Int → St → Prop) (k : St → Prop) : Prop :=
  (2 < x1 → ∀ x_3 : Int, x_3 = S 1032 14 → isO 3 x_3 ∧ (wX4_signatureOfRow S (fun x_4 => ∀ S_5 : St, S_5 = up S x_3 7 x_4 → ∀ x_6 : Int, x_6 = S_5 1032 12 → isO 6 x_6 ∧ (∀ S_10 : St, S_10 = up S_5 x_6 17 (w32 (S_5 x_6 17 + 1)) → ∀ x_11 : Int, x_11 = S_10 1032 3 → isO 2 x_11 ∧ (∀ S_15 : St, S_15 = up S_10 x_11 3 (w32 (S_10 x_11 3 + 1)) → k S_15))))) ∧ (x1 ≤ 2 → ∀ x_16 : Int, x_16 = S 1032 14 → isO 3 x_16 ∧ ((0 ≤ x1 ∧ x1 < 3) ∧ (∀ x_19 : Int, x_19 = S (x_16 + 1) x1 → ∀ x_20 : Int, x_20 = S 1032 14 → isO 3 x_20 ∧ ((x_19 < 100 → wX4_keepMember_47 S x1 x_20 x1 x_19 P2 k) ∧ (100 ≤ x_19 → ∀ x_24 : Int, x_24 = S 1032 12 → isO 6 x_24 ∧ ((0 ≤ w32 (x_19 - 100) ∧ w32 (x_19 - 100) < 2) ∧ (wX4_keepMember_47 S x1 x_20 x1 (S (x_24 + 2) (w32 (x_19 - 100))) P2 k)))))))
def wX4_keepMember_2 (S : St) (x1 : Int) (k : St → Prop) : Prop :=
  wlp (fun (P : Int × St → Prop) (a : Int × St) => wX4_keepMember_2_b a.2 a.1 (fun b0 b1 => P (b0, b1)) k) (x1, S)
def wX4_keepMember_0 (S : St) (k : St → Prop) : Prop :=
  wX4_keepMember_2 S 0 k
def wX4_keepMember (S : St) (k : St → Prop) : Prop := wX4_keepMember_0 S k
def wX4_readMember_175 (S : St) (k : Int → St → Prop) : Prop :=
  wX4_readResult S (fun x_1 S_1 => (x_1 = 0 → k 0 S_1) ∧ (¬ x_1 = 0 → wX4_readMemberName S_1 (fun x_4 S_4 => (x_4 = 0 → k 0 S_4) ∧ (¬ x_4 = 0 → wX4_readKinds S_4 (fun x_7 S_7 => (x_7 = 0 → k 0 S_7) ∧ (¬ x_7 = 0 → wX4_take S_7 59 (fun x_11 S_11 => (¬ x_11 = 0 → wX4_keepMember S_11 (fun S_13 => k 1 S_13)) ∧ (x_11 = 0 → k 0 S_11))))))))
def wX4_readMember_153 (S : St) (x2 : Int) (k : Int → St → Prop) : Prop :=
  ∀ x_1 : Int, x_1 = S 1032 12 → isO 6 x_1 ∧ (wX6_isFace S x_1 (fun x_2 => (x_2 = 0 → wX4_readMember_175 S k) ∧ (¬ x_2 = 0 → (¬ x2 = 0 → wX4_readMember_175 S k) ∧ (x2 = 0 → ∀ x_5 : Int, x_5 = S 1032 14 → isO 3 x_5 ∧ (∀ S_7 : St, S_7 = up S x_5 3 2 → wX4_readMember_175 S_7 k)))))
def wX4_readMember_131 (S : St) (x1 : Int) (x2 : Int) (k : Int → St → Prop) : Prop :=
  ∀ x_1 : Int, x_1 = S 1032 12 → isO 6 x_1 ∧ (wX6_isFace S x_1 (fun x_2 => (x_2 = 0 → wX4_readMember_153 S x2 k) ∧ (¬ x_2 = 0 → (¬ x1 = 0 → wX4_readMember_153 S x2 k) ∧ (x1 = 0 → ∀ x_5 : Int, x_5 = S 1032 14 → isO 3 x_5 ∧ (∀ S_7 : St, S_7 = up S x_5 2 3 → wX4_readMember_153 S_7 x2 k)))))
def wX4_readMember_117 (S : St) (x1 : Int) (s0 : Int) (k : Int → St → Prop) : Prop :=
  (s0 = 0 → wX4_readMember_131 S x1 s0 k) ∧ (¬ s0 = 0 → wX4_readForm S (fun x_2 S_2 => (¬ x_2 = 0 → wX4_readMember_131 S_2 x1 s0 k) ∧ (x_2 = 0 → k 0 S_2)))
def wX4_readMember_112 (S : St) (x1 : Int) (k : Int → St → Prop) : Prop :=
  wX4_readMember_117 S x1 1 k
def wX4_readMember_82 (S : St) (x1 : Int) (k : Int → St → Prop) : Prop :=
  (S 1032 5 = 209 → wX4_readMember_112 S x1 k) ∧ (¬ S 1032 5 = 209 → (S 1032 5 = 210 → wX4_readMember_112 S x1 k) ∧ (¬ S 1032 5 = 210 → (¬ S 1032 5 = 211 → wX4_readMember_117 S x1 0 k) ∧ (S 1032 5 = 211 → wX4_readMember_112 S x1 k)))
def wX4_readMember_68 (S : St) (s0 : Int) (k : Int → St → Prop) : Prop :=
  (s0 = 0 → wX4_readMember_82 S s0 k) ∧ (¬ s0 = 0 → wX4_readAccess S (fun x_2 S_2 => (¬ x_2 = 0 → wX4_readMember_82 S_2 s0 k) ∧ (x_2 = 0 → k 0 S_2)))
def wX4_readMember_63 (S : St) (k : Int → St → Prop) : Prop :=
  wX4_readMember_68 S 1 k
def wX4_readMember_0 (S : St) (k : Int → St → Prop) : Prop :=
  ∀ x_1 : Int, x_1 = S 1032 3 → isO 2 x_1 ∧ (∀ x_3 : Int, x_3 = S 1032 3 → isO 2 x_3 ∧ ((0 ≤ S x_3 3 ∧ S x_3 3 < 121) ∧ ∀ x_5 : Int, x_5 = x_1 + 150 + 3 * (S x_3 3) → ∀ S_6 : St, S_6 = up S 1032 14 x_5 → ∀ x_7 : Int, x_7 = S_6 1032 14 → isO 3 x_7 ∧ (∀ x_8 : Int, x_8 = S_6 1032 12 → isO 6 x_8 ∧ (wX3_clear S_6 x_7 (S_6 x_8 0) (fun S_10 => (S_10 1032 5 = 206 → wX4_readMember_63 S_10 k) ∧ (¬ S_10 1032 5 = 206 → (S_10 1032 5 = 207 → wX4_readMember_63 S_10 k) ∧ (¬ S_10 1032 5 = 207 → (¬ S_10 1032 5 = 208 → wX4_readMember_68 S_10 0 k) ∧ (S_10 1032 5 = 208 → wX4_readMember_63 S_10 k))))))))
def wX4_readMember (S : St) (k : Int → St → Prop) : Prop := wX4_readMember_0 S k
def wX4_packNumber_2_b (S : St) (x1 : Int) (x3 : Int) (P2 : Int → Prop) (k : Int → St → Prop) : Prop :=
  ∀ x_1 : Int, x_1 = S 1032 3 → isO 2 x_1 ∧ ((S x_1 8 ≤ x3 → ∀ x_4 : Int, x_4 = S 1032 3 → isO 2 x_4 ∧ ((572 ≤ S x_4 8 → ∀ x_9 : Int, x_9 = S 1032 3 → isO 2 x_9 ∧ (k (S x_9 8) S)) ∧ (S x_4 8 < 572 → ∀ x_12 : Int, x_12 = S 1032 3 → isO 2 x_12 ∧ ((0 ≤ S x_12 8 ∧ S x_12 8 < 572) ∧ (∀ S_14 : St, S_14 = up S 1033 (S x_12 8) x1 → ∀ x_15 : Int, x_15 = S_14 1032 3 → isO 2 x_15 ∧ (∀ S_19 : St, S_19 = up S_14 x_15 8 (w32 (S_14 x_15 8 + 1)) → ∀ x_20 : Int, x_20 = S_19 1032 3 → isO 2 x_20 ∧ (k (S_19 x_20 8) S_19))))))) ∧ (x3 < S x_1 8 → (0 ≤ x3 ∧ x3 < 572) ∧ ((¬ S 1033 x3 = x1 → ∀ x_26 : Int, x_26 = w32 (x3 + 1) → P2 x_26) ∧ (S 1033 x3 = x1 → k (w32 (x3 + 1)) S))))
def wX4_packNumber_2 (S : St) (x1 : Int) (x3 : Int) (k : Int → St → Prop) : Prop :=
  wlp (fun (P : Int → Prop) (a : Int) => wX4_packNumber_2_b S x1 a (fun b0 => P (b0)) k) (x3)
def wX4_packNumber_0 (S : St) (x1 : Int) (k : Int → St → Prop) : Prop :=
  wX4_packNumber_2 S x1 0 k
def wX4_packNumber (S : St) (x1 : Int) (k : Int → St → Prop) : Prop := wX4_packNumber_0 S x1 k
def wX4_readPack_0 (S : St) (k : Int → St → Prop) : Prop :=
  wX4_advance S (fun S_1 => (S_1 1032 5 = 2 → wX4_packNumber S_1 (S_1 1032 6) (fun x_6 S_6 => ∀ S_7 : St, S_7 = up S_6 1032 9 x_6 → wX4_advance S_7 (fun S_8 => wX4_take S_8 59 (fun x_10 S_10 => (x_10 = 0 ∨ x_10 = 1) ∧ k x_10 S_10)))) ∧ (¬ S_1 1032 5 = 2 → wX4_misfit S_1 (fun x_11 S_11 => (x_11 = 0 ∨ x_11 = 1) ∧ k x_11 S_11)))
def wX4_readPack (S : St) (k : Int → St → Prop) : Prop := wX4_readPack_0 S k
def wX4_readLoader_23 (S : St) (k : Int → St → Prop) : Prop :=
  wX4_misfit S (fun x_1 S_1 => (x_1 = 0 ∨ x_1 = 1) ∧ k x_1 S_1)
def wX4_readLoader_0 (S : St) (k : Int → St → Prop) : Prop :=
  wX4_advance S (fun S_1 => (¬ S_1 1032 5 = 3 → wX4_readLoader_23 S_1 k) ∧ (S_1 1032 5 = 3 → (S_1 1032 6 ≤ 2 → ∀ S_11 : St, S_11 = up S_1 1032 10 (w32 (S_1 1032 6)) → wX4_advance S_11 (fun S_12 => wX4_take S_12 59 (fun x_14 S_14 => (x_14 = 0 ∨ x_14 = 1) ∧ k x_14 S_14))) ∧ (2 < S_1 1032 6 → wX4_readLoader_23 S_1 k)))
def wX4_readLoader (S : St) (k : Int → St → Prop) : Prop := wX4_readLoader_0 S k
def wX6_clear_0 (S : St) (x0 : Int) (x1 : Int) (x2 : Int) (x3 : Int) (x4 : Int) (k : St → Prop) : Prop :=
  ∀ S_1 : St, S_1 = up S x0 4 x1 → ∀ S_2 : St, S_2 = up S_1 x0 2 x2 → ∀ S_3 : St, S_3 = up S_2 x0 3 x3 → ∀ S_4 : St, S_4 = up S_3 x0 16 x4 → ∀ S_6 : St, S_6 = up S_4 x0 1 0 → ∀ S_8 : St, S_8 = up S_6 x0 5 (S_6 x0 0) → ∀ S_10 : St, S_10 = up S_8 x0 6 0 → ∀ S_12 : St, S_12 = up S_10 x0 9 0 → ∀ S_14 : St, S_14 = up S_12 x0 11 (-1) → ∀ S_16 : St, S_16 = up S_14 x0 12 0 → ∀ S_18 : St, S_18 = up S_16 x0 14 0 → ∀ S_20 : St, S_20 = up S_18 x0 17 0 → ∀ S_22 : St, S_22 = up S_20 x0 18 0 → ∀ S_24 : St, S_24 = up S_22 x0 19 0 → k S_24
def wX6_clear (S : St) (x0 : Int) (x1 : Int) (x2 : Int) (x3 : Int) (x4 : Int) (k : St → Prop) : Prop := wX6_clear_0 S x0 x1 x2 x3 x4 k
def wX4_readTypeName_15_b (S : St) (x1 : Int) (P15 : Int → Prop) (k : Int → St → Prop) : Prop :=
  ∀ x_1 : Int, x_1 = S 1032 3 → isO 2 x_1 ∧ ((S x_1 1 ≤ x1 → ∀ x_4 : Int, x_4 = S 1032 12 → isO 6 x_4 ∧ (∀ S_6 : St, S_6 = up S x_4 1 (S 1032 6) → ∀ x_7 : Int, x_7 = S_6 1032 3 → isO 2 x_7 ∧ (∀ S_11 : St, S_11 = up S_6 x_7 1 (w32 (S_6 x_7 1 + 1)) → ∀ S_13 : St, S_13 = up S_11 1032 11 1 → wX4_advance S_13 (fun S_14 => k 1 S_14)))) ∧ (x1 < S x_1 1 → ∀ x_16 : Int, x_16 = S 1032 3 → isO 2 x_16 ∧ ((0 ≤ x1 ∧ x1 < 24) ∧ ∀ x_18 : Int, x_18 = x_16 + 6 + 6 * x1 → (¬ S x_18 1 = S 1032 6 → ∀ x_23 : Int, x_23 = w32 (x1 + 1) → P15 x_23) ∧ (S x_18 1 = S 1032 6 → wX4_fail S 3 (fun x_25 S_25 => (x_25 = 0 ∨ x_25 = 1) ∧ k x_25 S_25)))))
def wX4_readTypeName_15 (S : St) (x1 : Int) (k : Int → St → Prop) : Prop :=
  wlp (fun (P : Int → Prop) (a : Int) => wX4_readTypeName_15_b S a (fun b0 => P (b0)) k) (x1)
def wX4_readTypeName_0 (S : St) (k : Int → St → Prop) : Prop :=
  (S 1032 5 = 2 → wX4_readTypeName_15 S 0 k) ∧ (¬ S 1032 5 = 2 → wX4_misfit S (fun x_5 S_5 => (x_5 = 0 ∨ x_5 = 1) ∧ k x_5 S_5))
def wX4_readTypeName (S : St) (k : Int → St → Prop) : Prop := wX4_readTypeName_0 S k
def wX4_readType_112 (S : St) (k : Int → St → Prop) : Prop :=
  wX4_readTypeName S (fun x_1 S_1 => (x_1 = 0 ∨ x_1 = 1) ∧ k x_1 S_1)
def wX4_readType_67 (S : St) (s0 : Int) (k : Int → St → Prop) : Prop :=
  ∀ x_1 : Int, x_1 = S 1032 12 → isO 6 x_1 ∧ (∀ x_4 : Int, x_4 = S 1032 3 → isO 2 x_4 ∧ (wX6_clear S x_1 s0 (S 1032 9) (S 1032 10) (S x_4 3) (fun S_6 => wX4_advance S_6 (fun S_7 => (¬ s0 = 1 → wX4_readType_112 S_7 k) ∧ (s0 = 1 → wX4_take S_7 202 (fun x_11 S_11 => (¬ x_11 = 0 → wX4_readType_112 S_11 k) ∧ (x_11 = 0 → k 0 S_11)))))))
def wX4_readType_0 (S : St) (k : Int → St → Prop) : Prop :=
  ∀ x_1 : Int, x_1 = S 1032 3 → isO 2 x_1 ∧ ((S x_1 1 < 24 → ∀ x_5 : Int, x_5 = S 1032 3 → isO 2 x_5 ∧ (∀ x_7 : Int, x_7 = S 1032 3 → isO 2 x_7 ∧ ((0 ≤ S x_7 1 ∧ S x_7 1 < 24) ∧ ∀ x_9 : Int, x_9 = x_5 + 6 + 6 * (S x_7 1) → ∀ S_10 : St, S_10 = up S 1032 12 x_9 → (¬ S_10 1032 5 = 203 → (¬ S_10 1032 5 = 210 → wX4_readType_67 S_10 0 k) ∧ (S_10 1032 5 = 210 → wX4_readType_67 S_10 1 k)) ∧ (S_10 1032 5 = 203 → wX4_readType_67 S_10 2 k)))) ∧ (24 ≤ S x_1 1 → wX4_fail S 6 (fun x_21 S_21 => (x_21 = 0 ∨ x_21 = 1) ∧ k x_21 S_21)))
def wX4_readType (S : St) (k : Int → St → Prop) : Prop := wX4_readType_0 S k
def wX4_readItem_0 (S : St) (k : Int → St → Prop) : Prop :=
  (S 1032 5 = 200 → wX4_readPack S (fun x_3 S_3 => (x_3 = 0 ∨ x_3 = 1) ∧ k x_3 S_3)) ∧ (S 1032 5 = 201 → wX4_readLoader S (fun x_4 S_4 => (x_4 = 0 ∨ x_4 = 1) ∧ k x_4 S_4)) ∧ (S 1032 5 = 202 → wX4_readType S (fun x_5 S_5 => (x_5 = 0 ∨ x_5 = 1) ∧ k x_5 S_5)) ∧ (S 1032 5 = 203 → wX4_readType S (fun x_6 S_6 => (x_6 = 0 ∨ x_6 = 1) ∧ k x_6 S_6)) ∧ (S 1032 5 = 204 → wX4_misfit S (fun x_7 S_7 => (x_7 = 0 ∨ x_7 = 1) ∧ k x_7 S_7)) ∧ (S 1032 5 = 205 → wX4_misfit S (fun x_8 S_8 => (x_8 = 0 ∨ x_8 = 1) ∧ k x_8 S_8)) ∧ (S 1032 5 = 206 → wX4_misfit S (fun x_9 S_9 => (x_9 = 0 ∨ x_9 = 1) ∧ k x_9 S_9)) ∧ (S 1032 5 = 207 → wX4_misfit S (fun x_10 S_10 => (x_10 = 0 ∨ x_10 = 1) ∧ k x_10 S_10)) ∧ (S 1032 5 = 208 → wX4_misfit S (fun x_11 S_11 => (x_11 = 0 ∨ x_11 = 1) ∧ k x_11 S_11)) ∧ (S 1032 5 = 209 → wX4_misfit S (fun x_12 S_12 => (x_12 = 0 ∨ x_12 = 1) ∧ k x_12 S_12)) ∧ (S 1032 5 = 210 → wX4_readType S (fun x_13 S_13 => (x_13 = 0 ∨ x_13 = 1) ∧ k x_13 S_13)) ∧ (S 1032 5 < 200 ∨ 210 < S 1032 5 → wX4_misfit S (fun x_14 S_14 => (x_14 = 0 ∨ x_14 = 1) ∧ k x_14 S_14))
def wX4_readItem (S : St) (k : Int → St → Prop) : Prop := wX4_readItem_0 S k
def wX4_read_102 (S : St) (x3 : Int) (P20 : Int → Int → St → Prop) (k : Int → St → Prop) : Prop :=
  ∀ x_2 : Int, x_2 = w32 (x3 + 1) → P20 0 x_2 S
def wX4_read_47 (S : St) (x3 : Int) (P20 : Int → Int → St → Prop) (k : Int → St → Prop) : Prop :=
  (S 1032 11 = 1 → wX4_readHead S (fun x_3 S_3 => ∀ x_4 : Int, x_4 = w32 (x3 + 1) → P20 x_3 x_4 S_3)) ∧ (S 1032 11 = 2 → wX4_readRef S (fun x_5 S_5 => (x_5 = 0 → wX4_read_102 S_5 x3 P20 k) ∧ (¬ x_5 = 0 → wX4_readArguments S_5 (fun x_7 S_7 => (x_7 = 0 → wX4_read_102 S_7 x3 P20 k) ∧ (¬ x_7 = 0 → ∀ x_10 : Int, x_10 = w32 (x3 + 1) → P20 1 x_10 S_7))))) ∧ (S 1032 11 = 3 → (¬ S 1032 5 = 125 → wX4_readMember S (fun x_14 S_14 => ∀ x_15 : Int, x_15 = w32 (x3 + 1) → P20 x_14 x_15 S_14)) ∧ (S 1032 5 = 125 → wX4_closeType S (fun x_16 S_16 => ∀ x_17 : Int, x_17 = w32 (x3 + 1) → P20 x_16 x_17 S_16))) ∧ (S 1032 11 < 1 ∨ 3 < S 1032 11 → wX4_readItem S (fun x_18 S_18 => ∀ x_19 : Int, x_19 = w32 (x3 + 1) → P20 x_18 x_19 S_18))
def wX4_read_20_b (S : St) (x2 : Int) (x3 : Int) (P20 : Int → Int → St → Prop) (k : Int → St → Prop) : Prop :=
  (4000 < x3 → k 0 S) ∧ (x3 ≤ 4000 → (x2 = 0 → k 0 S) ∧ (¬ x2 = 0 → (¬ S 1032 11 = 0 → wX4_read_47 S x3 P20 k) ∧ (S 1032 11 = 0 → (¬ S 1032 5 = 0 → wX4_read_47 S x3 P20 k) ∧ (S 1032 5 = 0 → k 1 S))))
def wX4_read_20 (S : St) (x2 : Int) (x3 : Int) (k : Int → St → Prop) : Prop :=
  wlp (fun (P : Int × Int × St → Prop) (a : Int × Int × St) => wX4_read_20_b a.2.2 a.1 a.2.1 (fun b0 b1 b2 => P (b0, b1, b2)) k) (x2, x3, S)
def wX4_read_0 (S : St) (x1 : Int) (k : Int → St → Prop) : Prop :=
  ∀ S_1 : St, S_1 = up S 1032 3 x1 → ∀ x_2 : Int, x_2 = S_1 1032 3 → isO 2 x_2 ∧ (wX2_clear S_1 x_2 (fun S_3 => wX4_start S_3 (fun S_4 => wX4_read_20 S_4 1 0 k)))
def wX4_read (S : St) (x1 : Int) (k : Int → St → Prop) : Prop := wX4_read_0 S x1 k
def wX5_isLetter_12 (S : St) (x0 : Int) (k : Int → Prop) : Prop :=
  (x0 < 65 → k 0) ∧ (65 ≤ x0 → (90 < x0 → k 0) ∧ (x0 ≤ 90 → k 1))
def wX5_isLetter_0 (S : St) (x0 : Int) (k : Int → Prop) : Prop :=
  (x0 < 97 → wX5_isLetter_12 S x0 k) ∧ (97 ≤ x0 → (x0 ≤ 122 → k 1) ∧ (122 < x0 → wX5_isLetter_12 S x0 k))
def wX5_isLetter (S : St) (x0 : Int) (k : Int → Prop) : Prop := wX5_isLetter_0 S x0 k
def wX5_isDigit_0 (S : St) (x0 : Int) (k : Int → Prop) : Prop :=
  (x0 < 48 → k 0) ∧ (48 ≤ x0 → (57 < x0 → k 0) ∧ (x0 ≤ 57 → k 1))
def wX5_isDigit (S : St) (x0 : Int) (k : Int → Prop) : Prop := wX5_isDigit_0 S x0 k
def wX5_lengthenWord_0 (S : St) (x1 : Int) (k : St → Prop) : Prop :=
  ∀ S_4 : St, S_4 = up S 1028 4 (w32 (S 1028 4 + 1)) → (0 ≤ w32 ((S_4 1028 3) - 1) ∧ w32 ((S_4 1028 3) - 1) < 4001) ∧ ((0 ≤ w32 ((S_4 1028 3) - 1) ∧ w32 ((S_4 1028 3) - 1) < 4001) ∧ (∀ S_18 : St, S_18 = up S_4 1030 (w32 ((S_4 1028 3) - 1)) (or64 (shl64 (S_4 1030 (w32 ((S_4 1028 3) - 1))) 8) x1) → k S_18))
def wX5_lengthenWord (S : St) (x1 : Int) (k : St → Prop) : Prop := wX5_lengthenWord_0 S x1 k
def wX5_endWord_56 (S : St) (k : St → Prop) : Prop :=
  ∀ S_2 : St, S_2 = up S 1028 4 0 → k S_2
def wX5_endWord_0 (S : St) (k : St → Prop) : Prop :=
  (S 1028 4 ≤ 8 → (S 1028 4 ≤ 0 → wX5_endWord_56 S k) ∧ (0 < S 1028 4 → (0 ≤ w32 ((S 1028 3) - 1) ∧ w32 ((S 1028 3) - 1) < 4001) ∧ (wX5_sortOfWord S (S 1030 (w32 ((S 1028 3) - 1))) (fun x_15 => (0 ≤ w32 ((S 1028 3) - 1) ∧ w32 ((S 1028 3) - 1) < 4001) ∧ (∀ S_16 : St, S_16 = up S 1029 (w32 ((S 1028 3) - 1)) x_15 → wX5_endWord_56 S_16 k))))) ∧ (8 < S 1028 4 → (0 ≤ w32 ((S 1028 3) - 1) ∧ w32 ((S 1028 3) - 1) < 4001) ∧ (∀ S_22 : St, S_22 = up S 1029 (w32 ((S 1028 3) - 1)) 1 → wX5_endWord_56 S_22 k))
def wX5_endWord (S : St) (k : St → Prop) : Prop := wX5_endWord_0 S k
def wX5_add_0 (S : St) (x1 : Int) (x2 : Int) (x4 : Int) (k : St → Prop) : Prop :=
  (4001 ≤ S 1028 3 → k S) ∧ (S 1028 3 < 4001 → (0 ≤ S 1028 3 ∧ S 1028 3 < 4001) ∧ (∀ S_7 : St, S_7 = up S 1029 (S 1028 3) x1 → (0 ≤ S_7 1028 3 ∧ S_7 1028 3 < 4001) ∧ (∀ S_10 : St, S_10 = up S_7 1030 (S_7 1028 3) x2 → (0 ≤ S_10 1028 3 ∧ S_10 1028 3 < 4001) ∧ (∀ S_13 : St, S_13 = up S_10 1031 (S_10 1028 3) x4 → ∀ S_17 : St, S_17 = up S_13 1028 3 (w32 (S_13 1028 3 + 1)) → k S_17))))
def wX5_add (S : St) (x1 : Int) (x2 : Int) (x4 : Int) (k : St → Prop) : Prop := wX5_add_0 S x1 x2 x4 k
def wX5_isSign_0 (S : St) (x0 : Int) (k : Int → Prop) : Prop :=
  (x0 = 59 → k 1) ∧ (¬ x0 = 59 → (x0 = 44 → k 1) ∧ (¬ x0 = 44 → (x0 = 58 → k 1) ∧ (¬ x0 = 58 → (x0 = 123 → k 1) ∧ (¬ x0 = 123 → (x0 = 125 → k 1) ∧ (¬ x0 = 125 → (x0 = 40 → k 1) ∧ (¬ x0 = 40 → (x0 = 41 → k 1) ∧ (¬ x0 = 41 → (x0 = 60 → k 1) ∧ (¬ x0 = 60 → (¬ x0 = 62 → k 0) ∧ (x0 = 62 → k 1)))))))))
def wX5_isSign (S : St) (x0 : Int) (k : Int → Prop) : Prop := wX5_isSign_0 S x0 k
def wX5_begin_0 (S : St) (x1 : Int) (x2 : Int) (k : St → Prop) : Prop :=
  wX5_isLetter S x1 (fun x_1 => (x_1 = 0 → wX5_isDigit S x1 (fun x_3 => (x_3 = 0 → wX5_isSign S x1 (fun x_5 => (x_5 = 0 → (x1 = 32 → k S) ∧ (¬ x1 = 32 → (x1 = 10 → k S) ∧ (¬ x1 = 10 → wX5_add S 1 0 x2 (fun S_13 => k S_13)))) ∧ (¬ x_5 = 0 → wX5_add S x1 0 x2 (fun S_15 => k S_15)))) ∧ (¬ x_3 = 0 → wX5_add S 3 (w32 (x1 - 48)) x2 (fun S_20 => k S_20)))) ∧ (¬ x_1 = 0 → ∀ S_22 : St, S_22 = up S 1028 4 1 → wX5_add S_22 2 x1 x2 (fun S_25 => k S_25)))
def wX5_begin (S : St) (x1 : Int) (x2 : Int) (k : St → Prop) : Prop := wX5_begin_0 S x1 x2 k
def wX5_scan_55 (S : St) (x2 : Int) (x3 : Int) (x4 : Int) (P12 : Int → St → Prop) (k : St → Prop) : Prop :=
  wX5_lengthenWord S x4 (fun S_1 => ∀ x_2 : Int, x_2 = w32 (x3 + 1) → P12 x_2 S_1)
def wX5_scan_64 (S : St) (x2 : Int) (x3 : Int) (x4 : Int) (P12 : Int → St → Prop) (k : St → Prop) : Prop :=
  wX5_endWord S (fun S_1 => wX5_begin S_1 x4 x3 (fun S_2 => ∀ x_3 : Int, x_3 = w32 (x3 + 1) → P12 x_3 S_2))
def wX5_scan_81 (S : St) (x2 : Int) (k : St → Prop) : Prop :=
  wX5_endWord S (fun S_1 => wX5_add S_1 0 0 x2 (fun S_4 => k S_4))
def wX5_scan_12_b (S : St) (x2 : Int) (x3 : Int) (P12 : Int → St → Prop) (k : St → Prop) : Prop :=
  (x2 ≤ x3 → wX5_scan_81 S x2 k) ∧ (x3 < x2 → (4000 ≤ x3 → wX5_scan_81 S x2 k) ∧ (x3 < 4000 → (0 ≤ x3 ∧ x3 < 4000) ∧ (∀ x_7 : Int, x_7 = and32 (S 1 x3) 255 → (S 1028 4 ≤ 0 → wX5_scan_64 S x2 x3 x_7 P12 k) ∧ (0 < S 1028 4 → wX5_isLetter S x_7 (fun x_10 => (¬ x_10 = 0 → wX5_scan_55 S x2 x3 x_7 P12 k) ∧ (x_10 = 0 → wX5_isDigit S x_7 (fun x_12 => (x_12 = 0 → wX5_scan_64 S x2 x3 x_7 P12 k) ∧ (¬ x_12 = 0 → wX5_scan_55 S x2 x3 x_7 P12 k))))))))
def wX5_scan_12 (S : St) (x2 : Int) (x3 : Int) (k : St → Prop) : Prop :=
  wlp (fun (P : Int × St → Prop) (a : Int × St) => wX5_scan_12_b a.2 x2 a.1 (fun b0 b1 => P (b0, b1)) k) (x3, S)
def wX5_scan_0 (S : St) (x2 : Int) (k : St → Prop) : Prop :=
  ∀ S_2 : St, S_2 = up S 1028 3 0 → ∀ S_4 : St, S_4 = up S_2 1028 4 0 → wX5_scan_12 S_4 x2 0 k
def wX5_scan (S : St) (x2 : Int) (k : St → Prop) : Prop := wX5_scan_0 S x2 k
def wX7_put_3_b (S : St) (x1 : Int) (x2 : Int) (P3 : Int → St → Prop) (k : St → Prop) : Prop :=
  (x2 < 0 → k S) ∧ (0 ≤ x2 → (4000 ≤ S 0 1 → k S) ∧ (S 0 1 < 4000 → (0 ≤ S 0 1 ∧ S 0 1 < 4000) ∧ (∀ S_9 : St, S_9 = up S 1 (S 0 1) (sb8 (sb8 (ushr32 x1 x2))) → ∀ S_13 : St, S_13 = up S_9 0 1 (w32 (S_9 0 1 + 1)) → ∀ x_14 : Int, x_14 = w32 (x2 + (-8)) → P3 x_14 S_13)))
def wX7_put_3 (S : St) (x1 : Int) (x2 : Int) (k : St → Prop) : Prop :=
  wlp (fun (P : Int × St → Prop) (a : Int × St) => wX7_put_3_b a.2 x1 a.1 (fun b0 b1 => P (b0, b1)) k) (x2, S)
def wX7_put_0 (S : St) (x1 : Int) (k : St → Prop) : Prop :=
  wX7_put_3 S x1 24 k
def wX7_put (S : St) (x1 : Int) (k : St → Prop) : Prop := wX7_put_0 S x1 k
def wX7_feed_0 (S : St) (x1 : Int) (x2 : Int) (x3 : Int) (x4 : Int) (x5 : Int) (k : Int → St → Prop) : Prop :=
  (w32 (S 0 1 + 20) ≤ 4000 → wX7_put S x1 (fun S_6 => wX7_put S_6 x2 (fun S_7 => wX7_put S_7 x3 (fun S_8 => wX7_put S_8 x4 (fun S_9 => wX7_put S_9 x5 (fun S_10 => k (S_10 0 1) S_10)))))) ∧ (4000 < w32 (S 0 1 + 20) → k (-14) S)
def wX7_feed (S : St) (x1 : Int) (x2 : Int) (x3 : Int) (x4 : Int) (x5 : Int) (k : Int → St → Prop) : Prop := wX7_feed_0 S x1 x2 x3 x4 x5 k
def wX7_trim_0 (S : St) (x1 : Int) (k : Int → St → Prop) : Prop :=
  (x1 < 0 → k (-12) S) ∧ (0 ≤ x1 → (x1 ≤ S 0 1 → ∀ S_5 : St, S_5 = up S 0 1 x1 → k x1 S_5) ∧ (S 0 1 < x1 → k (-12) S))
def wX7_trim (S : St) (x1 : Int) (k : Int → St → Prop) : Prop := wX7_trim_0 S x1 k
def wX7_compile_0 (S : St) (k : Int → St → Prop) : Prop :=
  wX5_scan S (S 0 1) (fun S_4 => ∀ S_6 : St, S_6 = up S_4 0 1 0 → ∀ x_8 : Int, x_8 = S_6 0 5 → isO 2 x_8 ∧ (wX4_read S_6 x_8 (fun x_9 S_9 => ∀ S_12 : St, S_12 = up S_9 0 2 (S_9 1032 7) → (¬ x_9 = 0 → ∀ x_14 : Int, x_14 = S_12 0 4 → isO 2 x_14 ∧ (∀ x_15 : Int, x_15 = S_12 0 5 → isO 2 x_15 ∧ (∀ S_16 : St, S_16 = up S_12 0 4 x_15 → ∀ S_17 : St, S_17 = up S_16 0 5 x_14 → ∀ x_18 : Int, x_18 = S_17 0 4 → isO 2 x_18 ∧ (k (S_17 x_18 1) S_17)))) ∧ (x_9 = 0 → k (w32 ((-20) - (S_12 1032 8))) S_12))))
def wX7_compile (S : St) (k : Int → St → Prop) : Prop := wX7_compile_0 S k
def wX7_fault_0 (S : St) (k : Int → Prop) : Prop :=
  k (S 0 2)
def wX7_fault (S : St) (k : Int → Prop) : Prop := wX7_fault_0 S k
def wX7_isType_0 (S : St) (x1 : Int) (k : Int → Prop) : Prop :=
  (x1 < 0 → k 0) ∧ (0 ≤ x1 → ∀ x_3 : Int, x_3 = S 0 4 → isO 2 x_3 ∧ ((S x_3 1 ≤ x1 → k 0) ∧ (x1 < S x_3 1 → k 1)))
def wX7_isType (S : St) (x1 : Int) (k : Int → Prop) : Prop := wX7_isType_0 S x1 k
def wX7_type_0 (S : St) (x1 : Int) (x2 : Int) (k : Int → Prop) : Prop :=
  wX7_isType S x1 (fun x_1 => (¬ x_1 = 0 → ∀ x_3 : Int, x_3 = S 0 4 → isO 2 x_3 ∧ ((0 ≤ x1 ∧ x1 < 24) ∧ ∀ x_5 : Int, x_5 = x_3 + 6 + 6 * x1 → (x2 = 0 → k (S x_5 2)) ∧ (x2 = 1 → k (S x_5 3)) ∧ (x2 = 2 → k (S x_5 4)) ∧ (x2 = 3 → (¬ S x_5 11 = (-1) → k (S x_5 11)) ∧ (S x_5 11 = (-1) → k (-13))) ∧ (x2 = 4 → k (S x_5 5)) ∧ (x2 = 5 → k (S x_5 17)) ∧ (x2 = 6 → k (S x_5 19)) ∧ (x2 = 7 → k (S x_5 6)) ∧ (x2 = 8 → k (S x_5 12)) ∧ (x2 = 9 → (¬ S x_5 17 = 0 → k (S x_5 16)) ∧ (S x_5 17 = 0 → k (-13))) ∧ (x2 < 0 ∨ 9 < x2 → k (-12)))) ∧ (x_1 = 0 → k (-11)))
def wX7_type (S : St) (x1 : Int) (x2 : Int) (k : Int → Prop) : Prop := wX7_type_0 S x1 x2 k
def wX7_above_0 (S : St) (x1 : Int) (x2 : Int) (k : Int → Prop) : Prop :=
  wX7_isType S x1 (fun x_1 => (¬ x_1 = 0 → ∀ x_3 : Int, x_3 = S 0 4 → isO 2 x_3 ∧ ((0 ≤ x1 ∧ x1 < 24) ∧ ∀ x_5 : Int, x_5 = x_3 + 6 + 6 * x1 → (x2 < 0 → k (-13)) ∧ (0 ≤ x2 → (S x_5 12 ≤ x2 → k (-13)) ∧ (x2 < S x_5 12 → (0 ≤ x2 ∧ x2 < 24) ∧ (k (S (x_5 + 4) x2)))))) ∧ (x_1 = 0 → k (-11)))
def wX7_above (S : St) (x1 : Int) (x2 : Int) (k : Int → Prop) : Prop := wX7_above_0 S x1 x2 k
def wX7_yes_0 (S : St) (x0 : Int) (k : Int → Prop) : Prop :=
  (x0 = 0 → k 0) ∧ (¬ x0 = 0 → k 1)
def wX7_yes (S : St) (x0 : Int) (k : Int → Prop) : Prop := wX7_yes_0 S x0 k
def wX7_under_0 (S : St) (x1 : Int) (x2 : Int) (k : Int → Prop) : Prop :=
  wX7_isType S x1 (fun x_1 => (x_1 = 0 → k (-11)) ∧ (¬ x_1 = 0 → wX7_isType S x2 (fun x_4 => (¬ x_4 = 0 → ∀ x_6 : Int, x_6 = S 0 4 → isO 2 x_6 ∧ (wX2_isUnder S x_6 x1 x2 (fun x_7 => wX7_yes S x_7 (fun x_8 => k x_8)))) ∧ (x_4 = 0 → k (-11)))))
def wX7_under (S : St) (x1 : Int) (x2 : Int) (k : Int → Prop) : Prop := wX7_under_0 S x1 x2 k
def wX7_isMember_0 (S : St) (x1 : Int) (k : Int → Prop) : Prop :=
  (x1 < 0 → k 0) ∧ (0 ≤ x1 → ∀ x_3 : Int, x_3 = S 0 4 → isO 2 x_3 ∧ ((S x_3 3 ≤ x1 → k 0) ∧ (x1 < S x_3 3 → k 1)))
def wX7_isMember (S : St) (x1 : Int) (k : Int → Prop) : Prop := wX7_isMember_0 S x1 k
def wX7_member_0 (S : St) (x1 : Int) (x2 : Int) (k : Int → Prop) : Prop :=
  wX7_isMember S x1 (fun x_1 => (¬ x_1 = 0 → ∀ x_3 : Int, x_3 = S 0 4 → isO 2 x_3 ∧ ((0 ≤ x1 ∧ x1 < 121) ∧ ∀ x_5 : Int, x_5 = x_3 + 150 + 3 * x1 → (x2 = 0 → k (S x_5 1)) ∧ (x2 = 1 → k (S x_5 2)) ∧ (x2 = 2 → k (S x_5 3)) ∧ (x2 = 3 → k (S x_5 4)) ∧ (x2 < 0 ∨ 3 < x2 → k (-12)))) ∧ (x_1 = 0 → k (-11)))
def wX7_member (S : St) (x1 : Int) (x2 : Int) (k : Int → Prop) : Prop := wX7_member_0 S x1 x2 k
def wX7_seen_0 (S : St) (x1 : Int) (x2 : Int) (x3 : Int) (k : Int → Prop) : Prop :=
  wX7_isType S x1 (fun x_1 => (x_1 = 0 → k (-11)) ∧ (¬ x_1 = 0 → wX7_isMember S x2 (fun x_4 => (¬ x_4 = 0 → (x3 < 0 → k (-12)) ∧ (0 ≤ x3 → (x3 ≤ 2 → ∀ x_10 : Int, x_10 = S 0 4 → isO 2 x_10 ∧ ((0 ≤ x2 ∧ x2 < 121) ∧ ∀ x_12 : Int, x_12 = x_10 + 150 + 3 * x2 → (0 ≤ x3 ∧ x3 < 3) ∧ ((S (x_12 + 1) x3 = (-9) → k (-13)) ∧ (¬ S (x_12 + 1) x3 = (-9) → ∀ x_18 : Int, x_18 = S 0 4 → isO 2 x_18 ∧ (wX2_isUnder S x_18 x1 (S x_12 1) (fun x_20 => (¬ x_20 = 0 → ∀ x_22 : Int, x_22 = S 0 4 → isO 2 x_22 ∧ (∀ x_23 : Int, x_23 = S 0 4 → isO 2 x_23 ∧ ((0 ≤ x1 ∧ x1 < 24) ∧ ∀ x_25 : Int, x_25 = x_23 + 6 + 6 * x1 → wX2_kindSeen S x_22 x_25 x_12 x3 (fun x_26 => k x_26)))) ∧ (x_20 = 0 → k (-13)))))))) ∧ (2 < x3 → k (-12)))) ∧ (x_4 = 0 → k (-11)))))
def wX7_seen (S : St) (x1 : Int) (x2 : Int) (x3 : Int) (k : Int → Prop) : Prop := wX7_seen_0 S x1 x2 x3 k
def wX7_orNone_0 (S : St) (x0 : Int) (k : Int → Prop) : Prop :=
  (¬ x0 = (-9) → k x0) ∧ (x0 = (-9) → k (-13))
def wX7_orNone (S : St) (x0 : Int) (k : Int → Prop) : Prop := wX7_orNone_0 S x0 k
def wX7_erased_0 (S : St) (x1 : Int) (x2 : Int) (k : Int → Prop) : Prop :=
  wX7_isMember S x1 (fun x_1 => (¬ x_1 = 0 → (x2 < 0 → k (-12)) ∧ (0 ≤ x2 → (x2 ≤ 2 → ∀ x_7 : Int, x_7 = S 0 4 → isO 2 x_7 ∧ ((0 ≤ x1 ∧ x1 < 121) ∧ ∀ x_9 : Int, x_9 = x_7 + 150 + 3 * x1 → (0 ≤ x2 ∧ x2 < 3) ∧ (wX7_orNone S (S (x_9 + 2) x2) (fun x_12 => k x_12)))) ∧ (2 < x2 → k (-12)))) ∧ (x_1 = 0 → k (-11)))
def wX7_erased (S : St) (x1 : Int) (x2 : Int) (k : Int → Prop) : Prop := wX7_erased_0 S x1 x2 k
def wX7_overrides_0 (S : St) (x1 : Int) (x2 : Int) (k : Int → Prop) : Prop :=
  wX7_isMember S x1 (fun x_1 => (x_1 = 0 → k (-11)) ∧ (¬ x_1 = 0 → wX7_isMember S x2 (fun x_4 => (¬ x_4 = 0 → ∀ x_6 : Int, x_6 = S 0 4 → isO 2 x_6 ∧ (wX2_hasOverride S x_6 x1 x2 (fun x_7 => wX7_yes S x_7 (fun x_8 => k x_8)))) ∧ (x_4 = 0 → k (-11)))))
def wX7_overrides (S : St) (x1 : Int) (x2 : Int) (k : Int → Prop) : Prop := wX7_overrides_0 S x1 x2 k
def wX7_bridge_0 (S : St) (x1 : Int) (x2 : Int) (x3 : Int) (k : Int → Prop) : Prop :=
  wX7_isType S x1 (fun x_1 => (¬ x_1 = 0 → (x3 < 0 → k (-12)) ∧ (0 ≤ x3 → (x3 ≤ 4 → ∀ x_7 : Int, x_7 = S 0 4 → isO 2 x_7 ∧ ((0 ≤ x1 ∧ x1 < 24) ∧ ∀ x_9 : Int, x_9 = x_7 + 6 + 6 * x1 → (x2 < 0 → k (-13)) ∧ (0 ≤ x2 → (x2 < S x_9 19 → ∀ x_16 : Int, x_16 = w32 (S x_9 18 + x2) → (¬ x3 = 0 → ∀ x_18 : Int, x_18 = S 0 4 → isO 2 x_18 ∧ ((0 ≤ x_16 ∧ x_16 < 2880) ∧ (∀ x_21 : Int, x_21 = S (x_18 + 5) x_16 → (¬ x3 = 1 → ∀ x_24 : Int, x_24 = S 0 4 → isO 2 x_24 ∧ ((0 ≤ x_21 ∧ x_21 < 121) ∧ ∀ x_26 : Int, x_26 = x_24 + 150 + 3 * x_21 → (0 ≤ w32 (x3 - 2) ∧ w32 (x3 - 2) < 3) ∧ (wX7_orNone S (S (x_26 + 2) (w32 (x3 - 2))) (fun x_31 => k x_31)))) ∧ (x3 = 1 → k x_21)))) ∧ (x3 = 0 → ∀ x_32 : Int, x_32 = S 0 4 → isO 2 x_32 ∧ ((0 ≤ x_16 ∧ x_16 < 2880) ∧ (k (S (x_32 + 4) x_16))))) ∧ (S x_9 19 ≤ x2 → k (-13))))) ∧ (4 < x3 → k (-12)))) ∧ (x_1 = 0 → k (-11)))
def wX7_bridge (S : St) (x1 : Int) (x2 : Int) (x3 : Int) (k : Int → Prop) : Prop := wX7_bridge_0 S x1 x2 x3 k
def wX7_same_44 (S : St) (s0 : Int) (k : Int → Prop) : Prop :=
  wX7_yes S s0 (fun x_1 => k x_1)
def wX7_same_0 (S : St) (x1 : Int) (x2 : Int) (x3 : Int) (k : Int → Prop) : Prop :=
  wX7_isType S x1 (fun x_1 => (x_1 = 0 → k (-11)) ∧ (¬ x_1 = 0 → wX7_isType S x2 (fun x_4 => (¬ x_4 = 0 → (x3 = 0 → ∀ x_7 : Int, x_7 = S 0 4 → isO 2 x_7 ∧ (wX2_samePackage S x_7 x1 x2 (fun x_8 => wX7_same_44 S x_8 k))) ∧ (¬ x3 = 0 → ∀ x_9 : Int, x_9 = S 0 4 → isO 2 x_9 ∧ (wX2_sameNest S x_9 x1 x2 (fun x_10 => wX7_same_44 S x_10 k)))) ∧ (x_4 = 0 → k (-11)))))
def wX7_same (S : St) (x1 : Int) (x2 : Int) (x3 : Int) (k : Int → Prop) : Prop := wX7_same_0 S x1 x2 x3 k
def wX7_tell_0 (S : St) (x1 : Int) (k : Int → Prop) : Prop :=
  (1000 ≤ x1 → ∀ x_4 : Int, x_4 = S 0 4 → isO 2 x_4 ∧ (wX2_behind S x_4 x1 (fun x_5 => k (w32 (1000 + x_5))))) ∧ (x1 < 1000 → k x1)
def wX7_tell (S : St) (x1 : Int) (k : Int → Prop) : Prop := wX7_tell_0 S x1 k
def wX7_lookup_0 (S : St) (x1 : Int) (x2 : Int) (k : Int → St → Prop) : Prop :=
  wX7_isType S x1 (fun x_1 => (x_1 = 0 → k (-11) S) ∧ (¬ x_1 = 0 → wX7_isMember S x2 (fun x_4 => (¬ x_4 = 0 → ∀ x_7 : Int, x_7 = S 0 4 → isO 2 x_7 ∧ (wX1_open S x_7 (fun S_8 => ∀ x_10 : Int, x_10 = S_8 0 4 → isO 2 x_10 ∧ ((0 ≤ x2 ∧ x2 < 121) ∧ ∀ x_12 : Int, x_12 = x_10 + 150 + 3 * x2 → wX1_find S_8 x1 (S_8 x_12 7) (fun x_14 S_14 => wX7_tell S_14 x_14 (fun x_15 => k x_15 S_14)))))) ∧ (x_4 = 0 → k (-11) S))))
def wX7_lookup (S : St) (x1 : Int) (x2 : Int) (k : Int → St → Prop) : Prop := wX7_lookup_0 S x1 x2 k
def wX7_specific_0 (S : St) (x1 : Int) (x2 : Int) (x3 : Int) (k : Int → St → Prop) : Prop :=
  wX7_isType S x1 (fun x_1 => (x_1 = 0 → k (-11) S) ∧ (¬ x_1 = 0 → wX7_isMember S x2 (fun x_4 => (¬ x_4 = 0 → ∀ x_7 : Int, x_7 = S 0 4 → isO 2 x_7 ∧ (wX1_open S x_7 (fun S_8 => ∀ x_10 : Int, x_10 = S_8 0 4 → isO 2 x_10 ∧ ((0 ≤ x2 ∧ x2 < 121) ∧ ∀ x_12 : Int, x_12 = x_10 + 150 + 3 * x2 → wX1_specificAt S_8 x1 (S_8 x_12 7) x3 (fun x_14 S_14 => (¬ x_14 = (-1) → wX7_tell S_14 x_14 (fun x_17 => k x_17 S_14)) ∧ (x_14 = (-1) → k (-13) S_14)))))) ∧ (x_4 = 0 → k (-11) S))))
def wX7_specific (S : St) (x1 : Int) (x2 : Int) (x3 : Int) (k : Int → St → Prop) : Prop := wX7_specific_0 S x1 x2 x3 k
def wX7_may_0 (S : St) (x1 : Int) (x2 : Int) (x3 : Int) (x4 : Int) (k : Int → St → Prop) : Prop :=
  wX7_isType S x1 (fun x_1 => (x_1 = 0 → k (-11) S) ∧ (¬ x_1 = 0 → wX7_isType S x2 (fun x_4 => (x_4 = 0 → k (-11) S) ∧ (¬ x_4 = 0 → wX7_isMember S x3 (fun x_7 => (x_7 = 0 → k (-11) S) ∧ (¬ x_7 = 0 → wX7_isType S x4 (fun x_10 => (¬ x_10 = 0 → ∀ x_13 : Int, x_13 = S 0 4 → isO 2 x_13 ∧ (wX1_open S x_13 (fun S_14 => ∀ x_16 : Int, x_16 = S_14 0 4 → isO 2 x_16 ∧ ((0 ≤ x3 ∧ x3 < 121) ∧ ∀ x_18 : Int, x_18 = x_16 + 150 + 3 * x3 → wX1_find S_14 x2 (S_14 x_18 7) (fun x_20 S_20 => (¬ x_20 = (-1) → wX1_isGranted S_20 x1 x2 x_20 x4 (fun x_24 => wX7_yes S_20 x_24 (fun x_25 => k x_25 S_20))) ∧ (x_20 = (-1) → k (-1) S_20)))))) ∧ (x_10 = 0 → k (-11) S))))))))
def wX7_may (S : St) (x1 : Int) (x2 : Int) (x3 : Int) (x4 : Int) (k : Int → St → Prop) : Prop := wX7_may_0 S x1 x2 x3 x4 k
def wX7_rule_42 (S : St) (x1 : Int) (x2 : Int) (x3 : Int) (x4 : Int) (x5 : Int) (k : Int → St → Prop) : Prop :=
  (x1 < 0 → k (-12) S) ∧ (0 ≤ x1 → (x1 ≤ 3 → ∀ x_6 : Int, x_6 = S 0 4 → isO 2 x_6 ∧ (wX1_open S x_6 (fun S_7 => wX1_judge S_7 x1 x2 x3 x4 x5 (fun x_9 S_9 => ∀ S_12 : St, S_12 = up S_9 0 3 (S_9 1037 7) → k x_9 S_12)))) ∧ (3 < x1 → k (-12) S))
def wX7_rule_0 (S : St) (x1 : Int) (x2 : Int) (x3 : Int) (x4 : Int) (x5 : Int) (k : Int → St → Prop) : Prop :=
  wX7_isType S x2 (fun x_1 => (x_1 = 0 → k (-11) S) ∧ (¬ x_1 = 0 → wX7_isType S x3 (fun x_4 => (x_4 = 0 → k (-11) S) ∧ (¬ x_4 = 0 → wX7_isMember S x4 (fun x_7 => (x_7 = 0 → k (-11) S) ∧ (¬ x_7 = 0 → (x1 = 3 → wX7_rule_42 S x1 x2 x3 x4 x5 k) ∧ (¬ x1 = 3 → wX7_isType S x5 (fun x_12 => (¬ x_12 = 0 → wX7_rule_42 S x1 x2 x3 x4 x5 k) ∧ (x_12 = 0 → k (-11) S)))))))))
def wX7_rule (S : St) (x1 : Int) (x2 : Int) (x3 : Int) (x4 : Int) (x5 : Int) (k : Int → St → Prop) : Prop := wX7_rule_0 S x1 x2 x3 x4 x5 k
def wX7_hops_0 (S : St) (k : Int → Prop) : Prop :=
  k (S 0 3)
def wX7_hops (S : St) (k : Int → Prop) : Prop := wX7_hops_0 S k
def wX7_conflicts_0 (S : St) (x1 : Int) (k : Int → St → Prop) : Prop :=
  wX7_isType S x1 (fun x_1 => (¬ x_1 = 0 → ∀ x_3 : Int, x_3 = S 0 4 → isO 2 x_3 ∧ ((0 ≤ x1 ∧ x1 < 24) ∧ ∀ x_5 : Int, x_5 = x_3 + 6 + 6 * x1 → (S x_5 4 = 0 → ∀ x_9 : Int, x_9 = S 0 4 → isO 2 x_9 ∧ (wX1_open S x_9 (fun S_10 => wX1_count S_10 x1 (-3) (fun x_13 S_13 => k x_13 S_13)))) ∧ (¬ S x_5 4 = 0 → k (-13) S))) ∧ (x_1 = 0 → k (-11) S))
def wX7_conflicts (S : St) (x1 : Int) (k : Int → St → Prop) : Prop := wX7_conflicts_0 S x1 k
def wX7_tally_0 (S : St) (x1 : Int) (x2 : Int) (k : Int → St → Prop) : Prop :=
  wX7_isType S x1 (fun x_1 => (¬ x_1 = 0 → (x2 < (-7) → k (-12) S) ∧ ((-7) ≤ x2 → (x2 ≤ 0 → ∀ x_7 : Int, x_7 = S 0 4 → isO 2 x_7 ∧ ((0 ≤ x1 ∧ x1 < 24) ∧ ∀ x_9 : Int, x_9 = x_7 + 6 + 6 * x1 → (S x_9 4 = 0 → ∀ x_13 : Int, x_13 = S 0 4 → isO 2 x_13 ∧ (wX1_open S x_13 (fun S_14 => wX1_count S_14 x1 x2 (fun x_16 S_16 => k x_16 S_16)))) ∧ (¬ S x_9 4 = 0 → k (-13) S))) ∧ (0 < x2 → k (-12) S))) ∧ (x_1 = 0 → k (-11) S))
def wX7_tally (S : St) (x1 : Int) (x2 : Int) (k : Int → St → Prop) : Prop := wX7_tally_0 S x1 x2 k
def wX7_told_0 (S : St) (x1 : Int) (k : Int → Prop) : Prop :=
  (x1 = 0 → ∀ x_2 : Int, x_2 = S 0 4 → isO 2 x_2 ∧ (k (S x_2 1))) ∧ (x1 = 1 → ∀ x_4 : Int, x_4 = S 0 4 → isO 2 x_4 ∧ (k (S x_4 3))) ∧ (x1 = 2 → ∀ x_6 : Int, x_6 = S 0 4 → isO 2 x_6 ∧ (k (S x_6 7))) ∧ (x1 = 3 → ∀ x_8 : Int, x_8 = S 0 4 → isO 2 x_8 ∧ (k (S x_8 8))) ∧ (x1 = 4 → k (S 0 1)) ∧ (x1 < 0 ∨ 4 < x1 → k (-12))
def wX7_told (S : St) (x1 : Int) (k : Int → Prop) : Prop := wX7_told_0 S x1 k
def wX8_in_0 (S : St) (x0 : Int) (x1 : Int) (x2 : Int) (k : Int → Prop) : Prop :=
  (x0 < x1 → k 0) ∧ (x1 ≤ x0 → (x2 < x0 → k 0) ∧ (x0 ≤ x2 → k 1))
def wX8_in (S : St) (x0 : Int) (x1 : Int) (x2 : Int) (k : Int → Prop) : Prop := wX8_in_0 S x0 x1 x2 k
def wX8_feed_20_b (S : St) (x1 : Int) (x2 : Int) (x3 : Int) (x4 : Int) (x5 : Int) (x6 : Int) (P20 : Int → St → Prop) (k : Int → St → Prop) : Prop :=
  (x6 < 0 → ∀ S_5 : St, S_5 = up S 0 1 (w32 (S 0 1 + 20)) → k (S_5 0 1) S_5) ∧ (0 ≤ x6 → ∀ x_13 : Int, x_13 = w32 ((w32 (S 0 1 + 3)) - (div32 x6 8)) → (0 ≤ x_13 ∧ x_13 < 4000) ∧ (∀ S_17 : St, S_17 = up S 1 x_13 (sb8 (sb8 (shr32 x1 x6))) → (0 ≤ w32 (x_13 + 4) ∧ w32 (x_13 + 4) < 4000) ∧ (∀ S_23 : St, S_23 = up S_17 1 (w32 (x_13 + 4)) (sb8 (sb8 (shr32 x2 x6))) → (0 ≤ w32 (x_13 + 8) ∧ w32 (x_13 + 8) < 4000) ∧ (∀ S_29 : St, S_29 = up S_23 1 (w32 (x_13 + 8)) (sb8 (sb8 (shr32 x3 x6))) → (0 ≤ w32 (x_13 + 12) ∧ w32 (x_13 + 12) < 4000) ∧ (∀ S_35 : St, S_35 = up S_29 1 (w32 (x_13 + 12)) (sb8 (sb8 (shr32 x4 x6))) → (0 ≤ w32 (x_13 + 16) ∧ w32 (x_13 + 16) < 4000) ∧ (∀ S_41 : St, S_41 = up S_35 1 (w32 (x_13 + 16)) (sb8 (sb8 (shr32 x5 x6))) → ∀ x_42 : Int, x_42 = w32 (x6 + (-8)) → P20 x_42 S_41))))))
def wX8_feed_20 (S : St) (x1 : Int) (x2 : Int) (x3 : Int) (x4 : Int) (x5 : Int) (x6 : Int) (k : Int → St → Prop) : Prop :=
  wlp (fun (P : Int × St → Prop) (a : Int × St) => wX8_feed_20_b a.2 x1 x2 x3 x4 x5 a.1 (fun b0 b1 => P (b0, b1)) k) (x6, S)
def wX8_feed_0 (S : St) (x1 : Int) (x2 : Int) (x3 : Int) (x4 : Int) (x5 : Int) (k : Int → St → Prop) : Prop :=
  (w32 (S 0 1 + 20) ≤ 4000 → wX8_feed_20 S x1 x2 x3 x4 x5 24 k) ∧ (4000 < w32 (S 0 1 + 20) → k (-14) S)
def wX8_feed (S : St) (x1 : Int) (x2 : Int) (x3 : Int) (x4 : Int) (x5 : Int) (k : Int → St → Prop) : Prop := wX8_feed_0 S x1 x2 x3 x4 x5 k
def wX8_trim_0 (S : St) (x1 : Int) (k : Int → St → Prop) : Prop :=
  wX8_in S x1 0 (S 0 1) (fun x_3 => (¬ x_3 = 0 → ∀ S_5 : St, S_5 = up S 0 1 x1 → k x1 S_5) ∧ (x_3 = 0 → k (-12) S))
def wX8_trim (S : St) (x1 : Int) (k : Int → St → Prop) : Prop := wX8_trim_0 S x1 k
def wX8_isLetter_30 (S : St) (x1 : Int) (k : Int → Prop) : Prop :=
  (0 ≤ x1 ∧ x1 < 4000) ∧ ((S 1 x1 < 65 → k 0) ∧ (65 ≤ S 1 x1 → (0 ≤ x1 ∧ x1 < 4000) ∧ ((90 < S 1 x1 → k 0) ∧ (S 1 x1 ≤ 90 → k 1))))
def wX8_isLetter_0 (S : St) (x1 : Int) (k : Int → Prop) : Prop :=
  (S 0 1 ≤ x1 → k 0) ∧ (x1 < S 0 1 → (0 ≤ x1 ∧ x1 < 4000) ∧ ((S 1 x1 < 97 → wX8_isLetter_30 S x1 k) ∧ (97 ≤ S 1 x1 → (0 ≤ x1 ∧ x1 < 4000) ∧ ((S 1 x1 ≤ 122 → k 1) ∧ (122 < S 1 x1 → wX8_isLetter_30 S x1 k)))))
def wX8_isLetter (S : St) (x1 : Int) (k : Int → Prop) : Prop := wX8_isLetter_0 S x1 k
def wX8_isFigure_0 (S : St) (x1 : Int) (k : Int → Prop) : Prop :=
  (S 0 1 ≤ x1 → k 0) ∧ (x1 < S 0 1 → (0 ≤ x1 ∧ x1 < 4000) ∧ ((S 1 x1 < 48 → k 0) ∧ (48 ≤ S 1 x1 → (0 ≤ x1 ∧ x1 < 4000) ∧ ((57 < S 1 x1 → k 0) ∧ (S 1 x1 ≤ 57 → k 1)))))
def wX8_isFigure (S : St) (x1 : Int) (k : Int → Prop) : Prop := wX8_isFigure_0 S x1 k
def wX8_next_39 (S : St) (P0 : St → Prop) (k : St → Prop) : Prop :=
  ∀ S_4 : St, S_4 = up S 0 4 (w32 (S 0 4 + 1)) → P0 S_4
def wX8_next_127 (S : St) (x2 : Int) (P105 : Int → St → Prop) (k : St → Prop) : Prop :=
  (0 ≤ S 0 4 ∧ S 0 4 < 4000) ∧ (∀ S_9 : St, S_9 = up S 0 7 (or64 (shl64 (S 0 7) 8) (S 1 (S 0 4))) → ∀ S_13 : St, S_13 = up S_9 0 4 (w32 (S_9 0 4 + 1)) → ∀ x_14 : Int, x_14 = w32 (x2 + 1) → P105 x_14 S_13)
def wX8_next_222 (S : St) (x3 : Int) (s1 : Int) (P182 : Int → St → Prop) (k : St → Prop) : Prop :=
  ∀ S_1 : St, S_1 = up S 0 5 s1 → ∀ x_2 : Int, x_2 = w32 (x3 + 1) → P182 x_2 S_1
def wX8_next_182_b (S : St) (x3 : Int) (P182 : Int → St → Prop) (k : St → Prop) : Prop :=
  (14 ≤ x3 → k S) ∧ (x3 < 14 → (¬ S 0 5 = 2 → k S) ∧ (S 0 5 = 2 → (0 ≤ x3 ∧ x3 < 14) ∧ ((¬ S 2 x3 = S 0 7 → wX8_next_222 S x3 (S 0 5) P182 k) ∧ (S 2 x3 = S 0 7 → wX8_next_222 S x3 (w32 (10 + x3)) P182 k))))
def wX8_next_182 (S : St) (x3 : Int) (k : St → Prop) : Prop :=
  wlp (fun (P : Int × St → Prop) (a : Int × St) => wX8_next_182_b a.2 a.1 (fun b0 b1 => P (b0, b1)) k) (x3, S)
def wX8_next_177 (S : St) (s1 : Int) (k : St → Prop) : Prop :=
  ∀ S_1 : St, S_1 = up S 0 5 s1 → wX8_next_182 S_1 0 k
def wX8_next_105_b (S : St) (x2 : Int) (P105 : Int → St → Prop) (k : St → Prop) : Prop :=
  wX8_isLetter S (S 0 4) (fun x_2 => (¬ x_2 = 0 → wX8_next_127 S x2 P105 k) ∧ (x_2 = 0 → wX8_isFigure S (S 0 4) (fun x_5 => (x_5 = 0 → (x2 ≤ 8 → wX8_next_177 S 2 k) ∧ (8 < x2 → wX8_next_177 S 1 k)) ∧ (¬ x_5 = 0 → wX8_next_127 S x2 P105 k))))
def wX8_next_105 (S : St) (x2 : Int) (k : St → Prop) : Prop :=
  wlp (fun (P : Int × St → Prop) (a : Int × St) => wX8_next_105_b a.2 a.1 (fun b0 b1 => P (b0, b1)) k) (x2, S)
def wX8_next_342 (S : St) (s1 : Int) (k : St → Prop) : Prop :=
  ∀ S_1 : St, S_1 = up S 0 5 s1 → ∀ S_5 : St, S_5 = up S_1 0 4 (w32 (S_1 0 4 + 1)) → k S_5
def wX8_next_331 (S : St) (x1 : Int) (s0 : Int) (k : St → Prop) : Prop :=
  (s0 = 0 → wX8_next_342 S 1 k) ∧ (¬ s0 = 0 → wX8_next_342 S x1 k)
def wX8_next_326 (S : St) (x1 : Int) (k : St → Prop) : Prop :=
  wX8_next_331 S x1 1 k
def wX8_next_52 (S : St) (k : St → Prop) : Prop :=
  ∀ S_2 : St, S_2 = up S 0 6 (S 0 4) → (¬ S_2 0 4 = S_2 0 1 → (0 ≤ S_2 0 4 ∧ S_2 0 4 < 4000) ∧ (∀ x_9 : Int, x_9 = S_2 1 (S_2 0 4) → wX8_isLetter S_2 (S_2 0 4) (fun x_11 => (x_11 = 0 → wX8_isFigure S_2 (S_2 0 4) (fun x_14 => (x_14 = 0 → (x_9 = 59 → wX8_next_326 S_2 x_9 k) ∧ (¬ x_9 = 59 → (x_9 = 44 → wX8_next_326 S_2 x_9 k) ∧ (¬ x_9 = 44 → (x_9 = 58 → wX8_next_326 S_2 x_9 k) ∧ (¬ x_9 = 58 → (x_9 = 123 → wX8_next_326 S_2 x_9 k) ∧ (¬ x_9 = 123 → (x_9 = 125 → wX8_next_326 S_2 x_9 k) ∧ (¬ x_9 = 125 → (x_9 = 40 → wX8_next_326 S_2 x_9 k) ∧ (¬ x_9 = 40 → (x_9 = 41 → wX8_next_326 S_2 x_9 k) ∧ (¬ x_9 = 41 → (x_9 = 60 → wX8_next_326 S_2 x_9 k) ∧ (¬ x_9 = 60 → (¬ x_9 = 62 → wX8_next_331 S_2 x_9 0 k) ∧ (x_9 = 62 → wX8_next_326 S_2 x_9 k)))))))))) ∧ (¬ x_14 = 0 → ∀ S_38 : St, S_38 = up S_2 0 7 (w32 (x_9 - 48)) → ∀ S_40 : St, S_40 = up S_38 0 5 3 → ∀ S_44 : St, S_44 = up S_40 0 4 (w32 (S_40 0 4 + 1)) → k S_44))) ∧ (¬ x_11 = 0 → ∀ S_46 : St, S_46 = up S_2 0 7 0 → wX8_next_105 S_46 0 k)))) ∧ (S_2 0 4 = S_2 0 1 → ∀ S_49 : St, S_49 = up S_2 0 5 0 → k S_49)
def wX8_next_0_b (S : St) (P0 : St → Prop) (k : St → Prop) : Prop :=
  (S 0 1 ≤ S 0 4 → wX8_next_52 S k) ∧ (S 0 4 < S 0 1 → (0 ≤ S 0 4 ∧ S 0 4 < 4000) ∧ ((S 1 (S 0 4) = 32 → wX8_next_39 S P0 k) ∧ (¬ S 1 (S 0 4) = 32 → (0 ≤ S 0 4 ∧ S 0 4 < 4000) ∧ ((¬ S 1 (S 0 4) = 10 → wX8_next_52 S k) ∧ (S 1 (S 0 4) = 10 → wX8_next_39 S P0 k)))))
def wX8_next_0 (S : St) (k : St → Prop) : Prop :=
  wlp (fun (P : St → Prop) (a : St) => wX8_next_0_b a (fun b0 => P (b0)) k) (S)
def wX8_next (S : St) (k : St → Prop) : Prop := wX8_next_0 S k
def wX8_goesOn_0 (S : St) (k : Int → Prop) : Prop :=
  (¬ S 0 8 = 0 → k 0) ∧ (S 0 8 = 0 → k 1)
def wX8_goesOn (S : St) (k : Int → Prop) : Prop := wX8_goesOn_0 S k
def wX8_fails_0 (S : St) (x1 : Int) (x2 : Int) (k : St → Prop) : Prop :=
  (¬ S 0 8 = 0 → k S) ∧ (S 0 8 = 0 → ∀ S_3 : St, S_3 = up S 0 8 x1 → ∀ S_4 : St, S_4 = up S_3 0 9 x2 → k S_4)
def wX8_fails (S : St) (x1 : Int) (x2 : Int) (k : St → Prop) : Prop := wX8_fails_0 S x1 x2 k
def wX8_odd_14 (S : St) (s1 : Int) (k : St → Prop) : Prop :=
  wX8_fails S s1 (S 0 6) (fun S_2 => k S_2)
def wX8_odd_0 (S : St) (k : St → Prop) : Prop :=
  (¬ S 0 5 = 1 → wX8_odd_14 S 2 k) ∧ (S 0 5 = 1 → wX8_odd_14 S 1 k)
def wX8_odd (S : St) (k : St → Prop) : Prop := wX8_odd_0 S k
def wX8_is_0 (S : St) (x1 : Int) (k : Int → Prop) : Prop :=
  (¬ S 0 8 = 0 → k 0) ∧ (S 0 8 = 0 → (¬ S 0 5 = x1 → k 0) ∧ (S 0 5 = x1 → k 1))
def wX8_is (S : St) (x1 : Int) (k : Int → Prop) : Prop := wX8_is_0 S x1 k
def wX8_take_0 (S : St) (x1 : Int) (k : St → Prop) : Prop :=
  wX8_is S x1 (fun x_1 => (x_1 = 0 → wX8_odd S (fun S_3 => k S_3)) ∧ (¬ x_1 = 0 → wX8_next S (fun S_4 => k S_4)))
def wX8_take (S : St) (x1 : Int) (k : St → Prop) : Prop := wX8_take_0 S x1 k
def wX8_t_0 (S : St) (x1 : Int) (k : Int → Prop) : Prop :=
  k (w32 (w32 (24 * (S 0 10)) + x1))
def wX8_t (S : St) (x1 : Int) (k : Int → Prop) : Prop := wX8_t_0 S x1 k
def wX8_m_0 (S : St) (x1 : Int) (k : Int → Prop) : Prop :=
  k (w32 (w32 (120 * (S 0 10)) + x1))
def wX8_m (S : St) (x1 : Int) (k : Int → Prop) : Prop := wX8_m_0 S x1 k
def wX8_isType_0 (S : St) (x1 : Int) (k : Int → St → Prop) : Prop :=
  ∀ S_2 : St, S_2 = up S 0 10 (S 0 11) → (0 ≤ S_2 0 10 ∧ S_2 0 10 < 2) ∧ (wX8_in S_2 x1 0 (w32 ((S_2 3 (S_2 0 10)) - 1)) (fun x_9 => (x_9 = 0 ∨ x_9 = 1) ∧ k x_9 S_2))
def wX8_isType (S : St) (x1 : Int) (k : Int → St → Prop) : Prop := wX8_isType_0 S x1 k
def wX8_isMember_0 (S : St) (x1 : Int) (k : Int → St → Prop) : Prop :=
  ∀ S_2 : St, S_2 = up S 0 10 (S 0 11) → (0 ≤ S_2 0 10 ∧ S_2 0 10 < 2) ∧ (wX8_in S_2 x1 0 (w32 ((S_2 4 (S_2 0 10)) - 1)) (fun x_9 => (x_9 = 0 ∨ x_9 = 1) ∧ k x_9 S_2))
def wX8_isMember (S : St) (x1 : Int) (k : Int → St → Prop) : Prop := wX8_isMember_0 S x1 k
def wX8_isUnder_0 (S : St) (x1 : Int) (x2 : Int) (k : Int → Prop) : Prop :=
  (x1 = x2 → k 1) ∧ (¬ x1 = x2 → wX8_t S x1 (fun x_5 => (0 ≤ w32 (w32 (24 * x_5) + x2) ∧ w32 (w32 (24 * x_5) + x2) < 1152) ∧ ((S 22 (w32 (w32 (24 * x_5) + x2)) = 0 → k 0) ∧ (¬ S 22 (w32 (w32 (24 * x_5) + x2)) = 0 → k 1))))
def wX8_isUnder (S : St) (x1 : Int) (x2 : Int) (k : Int → Prop) : Prop := wX8_isUnder_0 S x1 x2 k
def wX8_isSamePackage_0 (S : St) (x1 : Int) (x2 : Int) (k : Int → Prop) : Prop :=
  wX8_t S x1 (fun x_2 => (0 ≤ x_2 ∧ x_2 < 48) ∧ (wX8_t S x2 (fun x_5 => (0 ≤ x_5 ∧ x_5 < 48) ∧ ((¬ S 9 x_2 = S 9 x_5 → k 0) ∧ (S 9 x_2 = S 9 x_5 → wX8_t S x1 (fun x_10 => (0 ≤ x_10 ∧ x_10 < 48) ∧ (wX8_t S x2 (fun x_13 => (0 ≤ x_13 ∧ x_13 < 48) ∧ ((¬ S 10 x_10 = S 10 x_13 → k 0) ∧ (S 10 x_10 = S 10 x_13 → k 1))))))))))
def wX8_isSamePackage (S : St) (x1 : Int) (x2 : Int) (k : Int → Prop) : Prop := wX8_isSamePackage_0 S x1 x2 k
def wX8_seenVar_0 (S : St) (x1 : Int) (x2 : Int) (x3 : Int) (k : Int → Prop) : Prop :=
  (¬ x1 = x2 → wX8_t S x1 (fun x_5 => (0 ≤ w32 (w32 (2 * (w32 (w32 (24 * x_5) + x2))) + x3) ∧ w32 (w32 (2 * (w32 (w32 (24 * x_5) + x2))) + x3) < 2304) ∧ (k (S 23 (w32 (w32 (2 * (w32 (w32 (24 * x_5) + x2))) + x3)))))) ∧ (x1 = x2 → k (w32 (100 + x3)))
def wX8_seenVar (S : St) (x1 : Int) (x2 : Int) (x3 : Int) (k : Int → Prop) : Prop := wX8_seenVar_0 S x1 x2 x3 k
def wX8_kindSeen_0 (S : St) (x1 : Int) (x2 : Int) (x3 : Int) (k : Int → Prop) : Prop :=
  wX8_m S x2 (fun x_3 => (0 ≤ w32 (w32 (3 * x_3) + x3) ∧ w32 (w32 (3 * x_3) + x3) < 720) ∧ (∀ x_7 : Int, x_7 = S 33 (w32 (w32 (3 * x_3) + x3)) → (x_7 < 100 → k x_7) ∧ (100 ≤ x_7 → wX8_m S x2 (fun x_11 => (0 ≤ x_11 ∧ x_11 < 240) ∧ (wX8_seenVar S x1 (S 28 x_11) (w32 (x_7 - 100)) (fun x_15 => k x_15))))))
def wX8_kindSeen (S : St) (x1 : Int) (x2 : Int) (x3 : Int) (k : Int → Prop) : Prop := wX8_kindSeen_0 S x1 x2 x3 k
def wX8_boundOf_0 (S : St) (x1 : Int) (x2 : Int) (k : Int → Prop) : Prop :=
  (x2 < 100 → k x2) ∧ (100 ≤ x2 → wX8_t S x1 (fun x_5 => (0 ≤ w32 ((w32 (w32 (2 * x_5) + x2)) - 100) ∧ w32 ((w32 (w32 (2 * x_5) + x2)) - 100) < 96) ∧ (k (S 15 (w32 ((w32 (w32 (2 * x_5) + x2)) - 100))))))
def wX8_boundOf (S : St) (x1 : Int) (x2 : Int) (k : Int → Prop) : Prop := wX8_boundOf_0 S x1 x2 k
def wX8_kindErased_0 (S : St) (x1 : Int) (x2 : Int) (k : Int → Prop) : Prop :=
  wX8_m S x1 (fun x_2 => (0 ≤ x_2 ∧ x_2 < 240) ∧ (wX8_m S x1 (fun x_6 => (0 ≤ w32 (w32 (3 * x_6) + x2) ∧ w32 (w32 (3 * x_6) + x2) < 720) ∧ (wX8_boundOf S (S 28 x_2) (S 33 (w32 (w32 (3 * x_6) + x2))) (fun x_10 => k x_10)))))
def wX8_kindErased (S : St) (x1 : Int) (x2 : Int) (k : Int → Prop) : Prop := wX8_kindErased_0 S x1 x2 k
def wX8_isLike_55_b (S : St) (x1 : Int) (x2 : Int) (x3 : Int) (x4 : Int) (x5 : Int) (P55 : Int → Int → Prop) (k : Int → Prop) : Prop :=
  wX8_m S x2 (fun x_2 => (0 ≤ x_2 ∧ x_2 < 240) ∧ ((S 32 x_2 ≤ x5 → (x4 = 0 ∨ x4 = 1) ∧ k x4) ∧ (x5 < S 32 x_2 → (x4 = 0 → ∀ x_7 : Int, x_7 = w32 (x5 + 1) → P55 0 x_7) ∧ (¬ x4 = 0 → wX8_kindSeen S x1 x2 x5 (fun x_8 => wX8_kindSeen S x1 x3 x5 (fun x_9 => (¬ x_8 = x_9 → ∀ x_12 : Int, x_12 = w32 (x5 + 1) → P55 0 x_12) ∧ (x_8 = x_9 → ∀ x_14 : Int, x_14 = w32 (x5 + 1) → P55 1 x_14)))))))
def wX8_isLike_55 (S : St) (x1 : Int) (x2 : Int) (x3 : Int) (x4 : Int) (x5 : Int) (k : Int → Prop) : Prop :=
  wlp (fun (P : Int × Int → Prop) (a : Int × Int) => wX8_isLike_55_b S x1 x2 x3 a.1 a.2 (fun b0 b1 => P (b0, b1)) k) (x4, x5)
def wX8_isLike_0 (S : St) (x1 : Int) (x2 : Int) (x3 : Int) (k : Int → Prop) : Prop :=
  wX8_m S x2 (fun x_2 => (0 ≤ x_2 ∧ x_2 < 240) ∧ (wX8_m S x3 (fun x_5 => (0 ≤ x_5 ∧ x_5 < 240) ∧ ((¬ S 29 x_2 = S 29 x_5 → k 0) ∧ (S 29 x_2 = S 29 x_5 → wX8_m S x2 (fun x_11 => (0 ≤ x_11 ∧ x_11 < 240) ∧ (wX8_m S x3 (fun x_14 => (0 ≤ x_14 ∧ x_14 < 240) ∧ ((S 32 x_11 = S 32 x_14 → wX8_isLike_55 S x1 x2 x3 1 0 k) ∧ (¬ S 32 x_11 = S 32 x_14 → k 0))))))))))
def wX8_isLike (S : St) (x1 : Int) (x2 : Int) (x3 : Int) (k : Int → Prop) : Prop := wX8_isLike_0 S x1 x2 x3 k
def wX8_isErasedLike_54_b (S : St) (x1 : Int) (x2 : Int) (x3 : Int) (x4 : Int) (P54 : Int → Int → Prop) (k : Int → Prop) : Prop :=
  wX8_m S x1 (fun x_2 => (0 ≤ x_2 ∧ x_2 < 240) ∧ ((S 32 x_2 ≤ x4 → (x3 = 0 ∨ x3 = 1) ∧ k x3) ∧ (x4 < S 32 x_2 → (x3 = 0 → ∀ x_7 : Int, x_7 = w32 (x4 + 1) → P54 0 x_7) ∧ (¬ x3 = 0 → wX8_kindErased S x1 x4 (fun x_8 => wX8_kindErased S x2 x4 (fun x_9 => (¬ x_8 = x_9 → ∀ x_12 : Int, x_12 = w32 (x4 + 1) → P54 0 x_12) ∧ (x_8 = x_9 → ∀ x_14 : Int, x_14 = w32 (x4 + 1) → P54 1 x_14)))))))
def wX8_isErasedLike_54 (S : St) (x1 : Int) (x2 : Int) (x3 : Int) (x4 : Int) (k : Int → Prop) : Prop :=
  wlp (fun (P : Int × Int → Prop) (a : Int × Int) => wX8_isErasedLike_54_b S x1 x2 a.1 a.2 (fun b0 b1 => P (b0, b1)) k) (x3, x4)
def wX8_isErasedLike_0 (S : St) (x1 : Int) (x2 : Int) (k : Int → Prop) : Prop :=
  wX8_m S x1 (fun x_2 => (0 ≤ x_2 ∧ x_2 < 240) ∧ (wX8_m S x2 (fun x_5 => (0 ≤ x_5 ∧ x_5 < 240) ∧ ((¬ S 29 x_2 = S 29 x_5 → k 0) ∧ (S 29 x_2 = S 29 x_5 → wX8_m S x1 (fun x_11 => (0 ≤ x_11 ∧ x_11 < 240) ∧ (wX8_m S x2 (fun x_14 => (0 ≤ x_14 ∧ x_14 < 240) ∧ ((S 32 x_11 = S 32 x_14 → wX8_isErasedLike_54 S x1 x2 1 0 k) ∧ (¬ S 32 x_11 = S 32 x_14 → k 0))))))))))
def wX8_isErasedLike (S : St) (x1 : Int) (x2 : Int) (k : Int → Prop) : Prop := wX8_isErasedLike_0 S x1 x2 k
def wX8_isSought_0 (S : St) (x1 : Int) (x2 : Int) (k : Int → Prop) : Prop :=
  wX8_isErasedLike S x1 x2 (fun x_1 => (x_1 = 0 → k 0) ∧ (¬ x_1 = 0 → wX8_kindErased S x1 2 (fun x_5 => wX8_kindErased S x2 2 (fun x_7 => (¬ x_5 = x_7 → k 0) ∧ (x_5 = x_7 → k 1)))))
def wX8_isSought (S : St) (x1 : Int) (x2 : Int) (k : Int → Prop) : Prop := wX8_isSought_0 S x1 x2 k
def wX8_seenType_61 (S : St) (x1 : Int) (x3 : Int) (x4 : Int) (x5 : Int) (s0 : Int) (P6 : Int → Int → Prop) (k : Int → Prop) : Prop :=
  wX8_t S x5 (fun x_2 => (0 ≤ x_2 ∧ x_2 < 48) ∧ ((¬ S 8 x_2 = x1 → ∀ x_6 : Int, x_6 = w32 (x5 + 1) → P6 x4 x_6) ∧ (S 8 x_2 = x1 → (s0 = 0 → ∀ x_8 : Int, x_8 = w32 (x5 + 1) → P6 x4 x_8) ∧ (¬ s0 = 0 → ∀ x_9 : Int, x_9 = w32 (x5 + 1) → P6 x5 x_9))))
def wX8_seenType_56 (S : St) (x1 : Int) (x3 : Int) (x4 : Int) (x5 : Int) (P6 : Int → Int → Prop) (k : Int → Prop) : Prop :=
  wX8_seenType_61 S x1 x3 x4 x5 1 P6 k
def wX8_seenType_6_b (S : St) (x1 : Int) (x3 : Int) (x4 : Int) (x5 : Int) (P6 : Int → Int → Prop) (k : Int → Prop) : Prop :=
  (x3 < x5 → k x4) ∧ (x5 ≤ x3 → (x5 = x3 → wX8_seenType_56 S x1 x3 x4 x5 P6 k) ∧ (¬ x5 = x3 → wX8_t S x5 (fun x_4 => (0 ≤ x_4 ∧ x_4 < 48) ∧ (wX8_t S x3 (fun x_7 => (0 ≤ x_7 ∧ x_7 < 48) ∧ ((S 10 x_4 = S 10 x_7 → wX8_seenType_56 S x1 x3 x4 x5 P6 k) ∧ (¬ S 10 x_4 = S 10 x_7 → wX8_t S x5 (fun x_11 => (0 ≤ x_11 ∧ x_11 < 48) ∧ ((¬ S 10 x_11 = 0 → wX8_seenType_61 S x1 x3 x4 x5 0 P6 k) ∧ (S 10 x_11 = 0 → wX8_seenType_56 S x1 x3 x4 x5 P6 k))))))))))
def wX8_seenType_6 (S : St) (x1 : Int) (x3 : Int) (x4 : Int) (x5 : Int) (k : Int → Prop) : Prop :=
  wlp (fun (P : Int × Int → Prop) (a : Int × Int) => wX8_seenType_6_b S x1 x3 a.1 a.2 (fun b0 b1 => P (b0, b1)) k) (x4, x5)
def wX8_seenType_0 (S : St) (x1 : Int) (x3 : Int) (k : Int → Prop) : Prop :=
  wX8_seenType_6 S x1 x3 (-1) 0 k
def wX8_seenType (S : St) (x1 : Int) (x3 : Int) (k : Int → Prop) : Prop := wX8_seenType_0 S x1 x3 k
def wX8_varNamed_6_b (S : St) (x1 : Int) (x3 : Int) (x4 : Int) (x5 : Int) (P6 : Int → Int → Prop) (k : Int → Prop) : Prop :=
  wX8_t S x3 (fun x_2 => (0 ≤ x_2 ∧ x_2 < 48) ∧ ((S 13 x_2 ≤ x5 → k x4) ∧ (x5 < S 13 x_2 → wX8_t S x3 (fun x_7 => (0 ≤ w32 (w32 (2 * x_7) + x5) ∧ w32 (w32 (2 * x_7) + x5) < 96) ∧ ((¬ S 14 (w32 (w32 (2 * x_7) + x5)) = x1 → ∀ x_13 : Int, x_13 = w32 (x5 + 1) → P6 x4 x_13) ∧ (S 14 (w32 (w32 (2 * x_7) + x5)) = x1 → ∀ x_14 : Int, x_14 = w32 (x5 + 1) → P6 x5 x_14))))))
def wX8_varNamed_6 (S : St) (x1 : Int) (x3 : Int) (x4 : Int) (x5 : Int) (k : Int → Prop) : Prop :=
  wlp (fun (P : Int × Int → Prop) (a : Int × Int) => wX8_varNamed_6_b S x1 x3 a.1 a.2 (fun b0 b1 => P (b0, b1)) k) (x4, x5)
def wX8_varNamed_0 (S : St) (x1 : Int) (x3 : Int) (k : Int → Prop) : Prop :=
  wX8_varNamed_6 S x1 x3 (-1) 0 k
def wX8_varNamed (S : St) (x1 : Int) (x3 : Int) (k : Int → Prop) : Prop := wX8_varNamed_0 S x1 x3 k
def wX8_takeNamed_44 (S : St) (s0 : Int) (k : Int → St → Prop) : Prop :=
  (0 ≤ s0 → wX8_next S (fun S_2 => k s0 S_2)) ∧ (s0 < 0 → wX8_fails S 3 (S 0 6) (fun S_5 => k s0 S_5))
def wX8_takeNamed_0 (S : St) (x1 : Int) (k : Int → St → Prop) : Prop :=
  wX8_is S 2 (fun x_2 => (¬ x_2 = 0 → wX8_varNamed S (S 0 7) x1 (fun x_5 => (x_5 < 0 → wX8_seenType S (S 0 7) x1 (fun x_8 => wX8_takeNamed_44 S x_8 k)) ∧ (0 ≤ x_5 → wX8_takeNamed_44 S (w32 (100 + x_5)) k))) ∧ (x_2 = 0 → wX8_odd S (fun S_11 => k (-1) S_11)))
def wX8_takeNamed (S : St) (x1 : Int) (k : Int → St → Prop) : Prop := wX8_takeNamed_0 S x1 k
def wX8_readPackage_115 (S : St) (x1 : Int) (k : St → Prop) : Prop :=
  ∀ S_1 : St, S_1 = up S 0 46 x1 → wX8_next S_1 (fun S_2 => wX8_take S_2 59 (fun S_4 => k S_4))
def wX8_readPackage_21_b (S : St) (x1 : Int) (x2 : Int) (P21 : Int → Int → Prop) (k : St → Prop) : Prop :=
  (0 ≤ S 0 10 ∧ S 0 10 < 2) ∧ ((S 6 (S 0 10) < x2 → (¬ x1 = 0 → wX8_readPackage_115 S x1 k) ∧ (x1 = 0 → (0 ≤ S 0 10 ∧ S 0 10 < 2) ∧ ((0 ≤ S 0 10 ∧ S 0 10 < 2) ∧ (∀ S_11 : St, S_11 = up S 6 (S 0 10) (w32 (S 6 (S 0 10) + 1)) → (0 ≤ S_11 0 10 ∧ S_11 0 10 < 2) ∧ (∀ x_15 : Int, x_15 = S_11 6 (S_11 0 10) → (0 ≤ w32 (w32 (700 * (S_11 0 10)) + x_15) ∧ w32 (w32 (700 * (S_11 0 10)) + x_15) < 1402) ∧ (∀ S_22 : St, S_22 = up S_11 7 (w32 (w32 (700 * (S_11 0 10)) + x_15)) (S_11 0 7) → wX8_readPackage_115 S_22 x_15 k)))))) ∧ (x2 ≤ S 6 (S 0 10) → (0 ≤ w32 (w32 (700 * (S 0 10)) + x2) ∧ w32 (w32 (700 * (S 0 10)) + x2) < 1402) ∧ ((¬ S 7 (w32 (w32 (700 * (S 0 10)) + x2)) = S 0 7 → ∀ x_32 : Int, x_32 = w32 (x2 + 1) → P21 x1 x_32) ∧ (S 7 (w32 (w32 (700 * (S 0 10)) + x2)) = S 0 7 → ∀ x_33 : Int, x_33 = w32 (x2 + 1) → P21 x2 x_33))))
def wX8_readPackage_21 (S : St) (x1 : Int) (x2 : Int) (k : St → Prop) : Prop :=
  wlp (fun (P : Int × Int → Prop) (a : Int × Int) => wX8_readPackage_21_b S a.1 a.2 (fun b0 b1 => P (b0, b1)) k) (x1, x2)
def wX8_readPackage_0 (S : St) (k : St → Prop) : Prop :=
  wX8_next S (fun S_1 => wX8_is S_1 2 (fun x_3 => (¬ x_3 = 0 → wX8_readPackage_21 S_1 0 1 k) ∧ (x_3 = 0 → wX8_odd S_1 (fun S_7 => k S_7))))
def wX8_readPackage (S : St) (k : St → Prop) : Prop := wX8_readPackage_0 S k
def wX8_readLoader_23 (S : St) (k : St → Prop) : Prop :=
  wX8_odd S (fun S_1 => k S_1)
def wX8_readLoader_0 (S : St) (k : St → Prop) : Prop :=
  wX8_next S (fun S_1 => wX8_is S_1 3 (fun x_3 => (x_3 = 0 → wX8_readLoader_23 S_1 k) ∧ (¬ x_3 = 0 → (S_1 0 7 ≤ 2 → ∀ S_11 : St, S_11 = up S_1 0 47 (w32 (S_1 0 7)) → wX8_next S_11 (fun S_12 => wX8_take S_12 59 (fun S_14 => k S_14))) ∧ (2 < S_1 0 7 → wX8_readLoader_23 S_1 k))))
def wX8_readLoader (S : St) (k : St → Prop) : Prop := wX8_readLoader_0 S k
def wX8_readVars_154 (S : St) (k : St → Prop) : Prop :=
  wX8_odd S (fun S_1 => k S_1)
def wX8_readVars_196 (S : St) (x1 : Int) (x2 : Int) (s0 : Int) (P12 : Int → St → Prop) (k : St → Prop) : Prop :=
  (s0 = 0 → P12 s0 S) ∧ (¬ s0 = 0 → wX8_next S (fun S_2 => P12 s0 S_2))
def wX8_readVars_195 (S : St) (x1 : Int) (x2 : Int) (P12 : Int → St → Prop) (k : St → Prop) : Prop :=
  wX8_readVars_196 S x1 x2 0 P12 k
def wX8_readVars_172 (S : St) (x1 : Int) (x2 : Int) (P12 : Int → St → Prop) (k : St → Prop) : Prop :=
  wX8_is S 44 (fun x_2 => (x_2 = 0 → wX8_readVars_195 S x1 x2 P12 k) ∧ (¬ x_2 = 0 → (0 ≤ x2 ∧ x2 < 48) ∧ ((2 ≤ S 13 x2 → wX8_readVars_195 S x1 x2 P12 k) ∧ (S 13 x2 < 2 → wX8_readVars_196 S x1 x2 1 P12 k))))
def wX8_readVars_130 (S : St) (x1 : Int) (x2 : Int) (x4 : Int) (s0 : Int) (P12 : Int → St → Prop) (k : St → Prop) : Prop :=
  (0 ≤ s0 → (0 ≤ x4 ∧ x4 < 96) ∧ (∀ S_3 : St, S_3 = up S 15 x4 s0 → wX8_next S_3 (fun S_4 => wX8_readVars_172 S_4 x1 x2 P12 k))) ∧ (s0 < 0 → wX8_is S 2 (fun x_6 => (x_6 = 0 → wX8_readVars_154 S k) ∧ (¬ x_6 = 0 → wX8_fails S 3 (S 0 6) (fun S_10 => wX8_readVars_154 S_10 k))))
def wX8_readVars_12_b (S : St) (x1 : Int) (x2 : Int) (x3 : Int) (P12 : Int → St → Prop) (k : St → Prop) : Prop :=
  (x3 = 0 → wX8_take S 62 (fun S_3 => k S_3)) ∧ (¬ x3 = 0 → wX8_is S 2 (fun x_5 => (¬ x_5 = 0 → wX8_varNamed S (S 0 7) x1 (fun x_8 => (x_8 < 0 → (0 ≤ x2 ∧ x2 < 48) ∧ (∀ x_15 : Int, x_15 = w32 (w32 (2 * x2) + S 13 x2) → (0 ≤ x_15 ∧ x_15 < 96) ∧ (∀ S_18 : St, S_18 = up S 14 x_15 (S 0 7) → (0 ≤ x_15 ∧ x_15 < 96) ∧ (∀ S_21 : St, S_21 = up S_18 15 x_15 (-1) → (0 ≤ x2 ∧ x2 < 48) ∧ ((0 ≤ x2 ∧ x2 < 48) ∧ (∀ S_26 : St, S_26 = up S_21 13 x2 (w32 (S_21 13 x2 + 1)) → wX8_next S_26 (fun S_27 => wX8_is S_27 15 (fun x_29 => (x_29 = 0 → wX8_readVars_172 S_27 x1 x2 P12 k) ∧ (¬ x_29 = 0 → wX8_next S_27 (fun S_31 => wX8_is S_31 2 (fun x_33 => (x_33 = 0 → wX8_readVars_130 S_31 x1 x2 x_15 (-1) P12 k) ∧ (¬ x_33 = 0 → wX8_seenType S_31 (S_31 0 7) x1 (fun x_37 => wX8_readVars_130 S_31 x1 x2 x_15 x_37 P12 k))))))))))))) ∧ (0 ≤ x_8 → wX8_fails S 3 (S 0 6) (fun S_40 => k S_40)))) ∧ (x_5 = 0 → wX8_odd S (fun S_41 => k S_41))))
def wX8_readVars_12 (S : St) (x1 : Int) (x2 : Int) (x3 : Int) (k : St → Prop) : Prop :=
  wlp (fun (P : Int × St → Prop) (a : Int × St) => wX8_readVars_12_b a.2 x1 x2 a.1 (fun b0 b1 => P (b0, b1)) k) (x3, S)
def wX8_readVars_0 (S : St) (x1 : Int) (k : St → Prop) : Prop :=
  wX8_t S x1 (fun x_1 => wX8_next S (fun S_3 => wX8_readVars_12 S_3 x1 x_1 1 k))
def wX8_readVars (S : St) (x1 : Int) (k : St → Prop) : Prop := wX8_readVars_0 S x1 k
def wX8_readNest_36 (S : St) (k : St → Prop) : Prop :=
  wX8_fails S 3 (S 0 6) (fun S_3 => k S_3)
def wX8_readNest_69 (S : St) (k : St → Prop) : Prop :=
  wX8_fails S 4 (S 0 6) (fun S_3 => k S_3)
def wX8_readNest_0 (S : St) (x1 : Int) (k : St → Prop) : Prop :=
  wX8_next S (fun S_1 => wX8_is S_1 2 (fun x_3 => (¬ x_3 = 0 → wX8_seenType S_1 (S_1 0 7) x1 (fun x_6 => (x_6 < 0 → wX8_readNest_36 S_1 k) ∧ (0 ≤ x_6 → (¬ x_6 = x1 → wX8_isSamePackage S_1 x_6 x1 (fun x_9 => (x_9 = 0 → wX8_readNest_69 S_1 k) ∧ (¬ x_9 = 0 → wX8_t S_1 x_6 (fun x_12 => (0 ≤ x_12 ∧ x_12 < 48) ∧ ((S_1 12 x_12 = x_6 → wX8_t S_1 x1 (fun x_16 => (0 ≤ x_16 ∧ x_16 < 48) ∧ (∀ S_17 : St, S_17 = up S_1 12 x_16 x_6 → wX8_next S_17 (fun S_18 => k S_18)))) ∧ (¬ S_1 12 x_12 = x_6 → wX8_readNest_69 S_1 k)))))) ∧ (x_6 = x1 → wX8_readNest_36 S_1 k)))) ∧ (x_3 = 0 → wX8_odd S_1 (fun S_19 => k S_19))))
def wX8_readNest (S : St) (x1 : Int) (k : St → Prop) : Prop := wX8_readNest_0 S x1 k
def wX8_readArguments_58 (S : St) (x1 : Int) (x2 : Int) (x3 : Int) (s0 : Int) (P9 : Int → Int → St → Prop) (k : Int → St → Prop) : Prop :=
  (s0 = 0 → P9 x3 s0 S) ∧ (¬ s0 = 0 → wX8_next S (fun S_2 => P9 x3 s0 S_2))
def wX8_readArguments_57 (S : St) (x1 : Int) (x2 : Int) (x3 : Int) (P9 : Int → Int → St → Prop) (k : Int → St → Prop) : Prop :=
  wX8_readArguments_58 S x1 x2 x3 0 P9 k
def wX8_readArguments_72 (S : St) (x3 : Int) (k : Int → St → Prop) : Prop :=
  wX8_take S 62 (fun S_2 => k x3 S_2)
def wX8_readArguments_9_b (S : St) (x1 : Int) (x2 : Int) (x3 : Int) (x4 : Int) (P9 : Int → Int → St → Prop) (k : Int → St → Prop) : Prop :=
  (x4 = 0 → wX8_readArguments_72 S x3 k) ∧ (¬ x4 = 0 → wX8_goesOn S (fun x_2 => (x_2 = 0 → wX8_readArguments_72 S x3 k) ∧ (¬ x_2 = 0 → wX8_takeNamed S x1 (fun x_8 S_8 => (0 ≤ w32 (w32 (2 * x2) + x3) ∧ w32 (w32 (2 * x2) + x3) < 480) ∧ (∀ S_9 : St, S_9 = up S_8 18 (w32 (w32 (2 * x2) + x3)) x_8 → ∀ x_10 : Int, x_10 = w32 (x3 + 1) → wX8_is S_9 44 (fun x_12 => (x_12 = 0 → wX8_readArguments_57 S_9 x1 x2 x_10 P9 k) ∧ (¬ x_12 = 0 → (2 ≤ x_10 → wX8_readArguments_57 S_9 x1 x2 x_10 P9 k) ∧ (x_10 < 2 → wX8_readArguments_58 S_9 x1 x2 x_10 1 P9 k))))))))
def wX8_readArguments_9 (S : St) (x1 : Int) (x2 : Int) (x3 : Int) (x4 : Int) (k : Int → St → Prop) : Prop :=
  wlp (fun (P : Int × Int × St → Prop) (a : Int × Int × St) => wX8_readArguments_9_b a.2.2 x1 x2 a.1 a.2.1 (fun b0 b1 b2 => P (b0, b1, b2)) k) (x3, x4, S)
def wX8_readArguments_0 (S : St) (x1 : Int) (x2 : Int) (k : Int → St → Prop) : Prop :=
  wX8_next S (fun S_3 => wX8_readArguments_9 S_3 x1 x2 0 1 k)
def wX8_readArguments (S : St) (x1 : Int) (x2 : Int) (k : Int → St → Prop) : Prop := wX8_readArguments_0 S x1 x2 k
def wX8_readRefs_58 (S : St) (k : St → Prop) : Prop :=
  wX8_fails S 3 (S 0 6) (fun S_3 => k S_3)
def wX8_readRefs_106 (S : St) (x1 : Int) (x2 : Int) (x4 : Int) (x6 : Int) (P12 : Int → St → Prop) (P74 : Int → Int → Prop) (k : St → Prop) : Prop :=
  ∀ x_2 : Int, x_2 = w32 (x6 + 1) → P74 1 x_2
def wX8_readRefs_158 (S : St) (k : St → Prop) : Prop :=
  wX8_fails S 4 (S 0 6) (fun S_3 => k S_3)
def wX8_readRefs_328 (S : St) (k : St → Prop) : Prop :=
  wX8_odd S (fun S_1 => k S_1)
def wX8_readRefs_319 (S : St) (k : St → Prop) : Prop :=
  wX8_fails S 4 (S 0 6) (fun S_3 => wX8_readRefs_328 S_3 k)
def wX8_readRefs_333 (S : St) (x1 : Int) (x2 : Int) (P12 : Int → St → Prop) (k : St → Prop) : Prop :=
  wX8_is S 44 (fun x_2 => (x_2 = 0 → P12 x_2 S) ∧ (¬ x_2 = 0 → wX8_next S (fun S_4 => P12 x_2 S_4)))
def wX8_readRefs_276 (S : St) (x1 : Int) (x2 : Int) (x4 : Int) (s0 : Int) (P12 : Int → St → Prop) (k : St → Prop) : Prop :=
  wX8_goesOn S (fun x_1 => (x_1 = 0 → wX8_readRefs_333 S x1 x2 P12 k) ∧ (¬ x_1 = 0 → wX8_t S x4 (fun x_4 => (0 ≤ x_4 ∧ x_4 < 48) ∧ ((s0 = S 13 x_4 → wX8_readRefs_333 S x1 x2 P12 k) ∧ (¬ s0 = S 13 x_4 → (S 0 5 = 44 → wX8_readRefs_319 S k) ∧ (¬ S 0 5 = 44 → (¬ S 0 5 = 123 → wX8_readRefs_328 S k) ∧ (S 0 5 = 123 → wX8_readRefs_319 S k)))))))
def wX8_readRefs_251 (S : St) (x1 : Int) (x2 : Int) (x4 : Int) (x6 : Int) (s1 : Int) (s2 : Int) (P12 : Int → St → Prop) (k : St → Prop) : Prop :=
  (0 ≤ s1 ∧ s1 < 48) ∧ (∀ S_1 : St, S_1 = up S 19 s1 s2 → wX8_next S_1 (fun S_2 => wX8_is S_2 60 (fun x_4 => (x_4 = 0 → wX8_readRefs_276 S_2 x1 x2 x4 0 P12 k) ∧ (¬ x_4 = 0 → wX8_readArguments S_2 x1 x6 (fun x_7 S_7 => wX8_readRefs_276 S_7 x1 x2 x4 x_7 P12 k)))))
def wX8_readRefs_168 (S : St) (x1 : Int) (x2 : Int) (x4 : Int) (P12 : Int → St → Prop) (k : St → Prop) : Prop :=
  (0 ≤ x2 ∧ x2 < 48) ∧ ((¬ S 16 x2 = 4 → (0 ≤ x2 ∧ x2 < 48) ∧ (∀ x_10 : Int, x_10 = w32 (w32 (5 * x2) + S 16 x2) → (0 ≤ x_10 ∧ x_10 < 240) ∧ (∀ S_12 : St, S_12 = up S 17 x_10 x4 → (0 ≤ x2 ∧ x2 < 48) ∧ ((0 ≤ x2 ∧ x2 < 48) ∧ (∀ S_17 : St, S_17 = up S_12 16 x2 (w32 (S_12 16 x2 + 1)) → wX8_t S_17 x4 (fun x_20 => (0 ≤ x_20 ∧ x_20 < 48) ∧ ((2 ≤ S_17 11 x_20 → (0 ≤ x2 ∧ x2 < 48) ∧ (wX8_readRefs_251 S_17 x1 x2 x4 x_10 x2 (S_17 19 x2) P12 k)) ∧ (S_17 11 x_20 < 2 → wX8_readRefs_251 S_17 x1 x2 x4 x_10 x2 x4 P12 k)))))))) ∧ (S 16 x2 = 4 → wX8_fails S 6 (S 0 6) (fun S_28 => k S_28)))
def wX8_readRefs_74_b (S : St) (x1 : Int) (x2 : Int) (x4 : Int) (x5 : Int) (x6 : Int) (P12 : Int → St → Prop) (P74 : Int → Int → Prop) (k : St → Prop) : Prop :=
  (0 ≤ x2 ∧ x2 < 48) ∧ ((S 16 x2 ≤ x6 → (¬ x5 = 0 → wX8_readRefs_158 S k) ∧ (x5 = 0 → wX8_t S x4 (fun x_6 => (0 ≤ x_6 ∧ x_6 < 48) ∧ ((2 ≤ S 11 x_6 → wX8_readRefs_168 S x1 x2 x4 P12 k) ∧ (S 11 x_6 < 2 → (0 ≤ x2 ∧ x2 < 48) ∧ ((S 11 x2 = 2 → wX8_readRefs_158 S k) ∧ (¬ S 11 x2 = 2 → (0 ≤ x2 ∧ x2 < 48) ∧ ((S 16 x2 ≤ 0 → wX8_readRefs_168 S x1 x2 x4 P12 k) ∧ (0 < S 16 x2 → wX8_readRefs_158 S k))))))))) ∧ (x6 < S 16 x2 → (¬ x5 = 0 → wX8_readRefs_106 S x1 x2 x4 x6 P12 P74 k) ∧ (x5 = 0 → (0 ≤ w32 (w32 (5 * x2) + x6) ∧ w32 (w32 (5 * x2) + x6) < 240) ∧ ((¬ S 17 (w32 (w32 (5 * x2) + x6)) = x4 → ∀ x_25 : Int, x_25 = w32 (x6 + 1) → P74 0 x_25) ∧ (S 17 (w32 (w32 (5 * x2) + x6)) = x4 → wX8_readRefs_106 S x1 x2 x4 x6 P12 P74 k)))))
def wX8_readRefs_74 (S : St) (x1 : Int) (x2 : Int) (x4 : Int) (x5 : Int) (x6 : Int) (P12 : Int → St → Prop) (k : St → Prop) : Prop :=
  wlp (fun (P : Int × Int → Prop) (a : Int × Int) => wX8_readRefs_74_b S x1 x2 x4 a.1 a.2 P12 (fun b0 b1 => P (b0, b1)) k) (x5, x6)
def wX8_readRefs_12_b (S : St) (x1 : Int) (x2 : Int) (x3 : Int) (P12 : Int → St → Prop) (k : St → Prop) : Prop :=
  (x3 = 0 → k S) ∧ (¬ x3 = 0 → wX8_goesOn S (fun x_2 => (x_2 = 0 → k S) ∧ (¬ x_2 = 0 → wX8_is S 2 (fun x_5 => (¬ x_5 = 0 → wX8_seenType S (S 0 7) x1 (fun x_8 => (x_8 < 0 → wX8_readRefs_58 S k) ∧ (0 ≤ x_8 → (¬ x_8 = x1 → wX8_readRefs_74 S x1 x2 x_8 0 0 P12 k) ∧ (x_8 = x1 → wX8_readRefs_58 S k)))) ∧ (x_5 = 0 → wX8_odd S (fun S_13 => k S_13))))))
def wX8_readRefs_12 (S : St) (x1 : Int) (x2 : Int) (x3 : Int) (k : St → Prop) : Prop :=
  wlp (fun (P : Int × St → Prop) (a : Int × St) => wX8_readRefs_12_b a.2 x1 x2 a.1 (fun b0 b1 => P (b0, b1)) k) (x3, S)
def wX8_readRefs_0 (S : St) (x1 : Int) (k : St → Prop) : Prop :=
  wX8_t S x1 (fun x_1 => wX8_next S (fun S_3 => wX8_readRefs_12 S_3 x1 x_1 1 k))
def wX8_readRefs (S : St) (x1 : Int) (k : St → Prop) : Prop := wX8_readRefs_0 S x1 k
def wX8_past_0 (S : St) (k : St → Prop) : Prop :=
  (S 0 48 = 0 → wX8_next S (fun S_3 => k S_3)) ∧ (¬ S 0 48 = 0 → wX8_fails S 6 (S 0 6) (fun S_6 => k S_6))
def wX8_past (S : St) (k : St → Prop) : Prop := wX8_past_0 S k
def wX8_readAccess_59 (S : St) (x2 : Int) (k : Int → St → Prop) : Prop :=
  (x2 < 0 → k x2 S) ∧ (0 ≤ x2 → wX8_past S (fun S_2 => k x2 S_2))
def wX8_readAccess_40 (S : St) (x1 : Int) (s0 : Int) (k : Int → St → Prop) : Prop :=
  (¬ s0 = 2 → wX8_readAccess_59 S s0 k) ∧ (s0 = 2 → (x1 = 0 → wX8_readAccess_59 S s0 k) ∧ (¬ x1 = 0 → wX8_fails S 5 (S 0 6) (fun S_6 => wX8_readAccess_59 S_6 s0 k)))
def wX8_readAccess_0 (S : St) (x1 : Int) (k : Int → St → Prop) : Prop :=
  wX8_is S 16 (fun x_2 => (x_2 = 0 → wX8_is S 17 (fun x_5 => (x_5 = 0 → wX8_is S 18 (fun x_8 => (x_8 = 0 → wX8_readAccess_40 S x1 (-1) k) ∧ (¬ x_8 = 0 → wX8_readAccess_40 S x1 0 k))) ∧ (¬ x_5 = 0 → wX8_readAccess_40 S x1 2 k))) ∧ (¬ x_2 = 0 → wX8_readAccess_40 S x1 3 k))
def wX8_readAccess (S : St) (x1 : Int) (k : Int → St → Prop) : Prop := wX8_readAccess_0 S x1 k
def wX8_readShape_73 (S : St) (x3 : Int) (k : Int → St → Prop) : Prop :=
  (x3 < 0 → k x3 S) ∧ (0 ≤ x3 → wX8_past S (fun S_2 => k x3 S_2))
def wX8_readShape_64 (S : St) (x3 : Int) (k : Int → St → Prop) : Prop :=
  wX8_fails S 5 (S 0 6) (fun S_3 => wX8_readShape_73 S_3 x3 k)
def wX8_readShape_51 (S : St) (x1 : Int) (x2 : Int) (x3 : Int) (k : Int → St → Prop) : Prop :=
  (¬ x3 = 2 → wX8_readShape_73 S x3 k) ∧ (x3 = 2 → (x1 = 0 → wX8_readShape_64 S x3 k) ∧ (¬ x1 = 0 → (¬ x2 = 0 → wX8_readShape_73 S x3 k) ∧ (x2 = 0 → wX8_readShape_64 S x3 k)))
def wX8_readShape_40 (S : St) (x1 : Int) (x2 : Int) (s0 : Int) (k : Int → St → Prop) : Prop :=
  (¬ s0 = 3 → wX8_readShape_51 S x1 x2 s0 k) ∧ (s0 = 3 → (x1 < 2 → wX8_readShape_64 S s0 k) ∧ (2 ≤ x1 → wX8_readShape_51 S x1 x2 s0 k))
def wX8_readShape_0 (S : St) (x1 : Int) (x2 : Int) (k : Int → St → Prop) : Prop :=
  wX8_is S 19 (fun x_2 => (x_2 = 0 → wX8_is S 20 (fun x_5 => (x_5 = 0 → wX8_is S 21 (fun x_8 => (x_8 = 0 → wX8_readShape_40 S x1 x2 (-1) k) ∧ (¬ x_8 = 0 → wX8_readShape_40 S x1 x2 3 k))) ∧ (¬ x_5 = 0 → wX8_readShape_40 S x1 x2 2 k))) ∧ (¬ x_2 = 0 → wX8_readShape_40 S x1 x2 1 k))
def wX8_readShape (S : St) (x1 : Int) (x2 : Int) (k : Int → St → Prop) : Prop := wX8_readShape_0 S x1 x2 k
def wX8_readResult_110 (S : St) (x3 : Int) (k : Int → St → Prop) : Prop :=
  wX8_goesOn S (fun x_1 => (x_1 = 0 → k x3 S) ∧ (¬ x_1 = 0 → wX8_past S (fun S_3 => k x3 S_3)))
def wX8_readResult_97 (S : St) (x2 : Int) (x3 : Int) (k : Int → St → Prop) : Prop :=
  (x2 = 0 → wX8_readResult_110 S x3 k) ∧ (¬ x2 = 0 → wX8_fails S 5 (S 0 6) (fun S_4 => wX8_readResult_110 S_4 x3 k))
def wX8_readResult_85 (S : St) (x2 : Int) (x3 : Int) (k : Int → St → Prop) : Prop :=
  wX8_readResult_97 S x2 x3 k
def wX8_readResult_71 (S : St) (x2 : Int) (s0 : Int) (k : Int → St → Prop) : Prop :=
  (0 ≤ s0 → wX8_readResult_85 S x2 s0 k) ∧ (s0 < 0 → wX8_fails S 3 (S 0 6) (fun S_4 => wX8_readResult_85 S_4 x2 s0 k))
def wX8_readResult_29 (S : St) (x1 : Int) (x2 : Int) (s0 : Int) (k : Int → St → Prop) : Prop :=
  wX8_is S 2 (fun x_2 => (x_2 = 0 → (¬ s0 = (-1) → wX8_readResult_97 S x2 s0 k) ∧ (s0 = (-1) → wX8_odd S (fun S_6 => wX8_readResult_97 S_6 x2 s0 k))) ∧ (¬ x_2 = 0 → wX8_varNamed S (S 0 7) x1 (fun x_8 => (x_8 < 0 → wX8_seenType S (S 0 7) x1 (fun x_11 => wX8_readResult_71 S x2 x_11 k)) ∧ (0 ≤ x_8 → wX8_readResult_71 S x2 (w32 (100 + x_8)) k))))
def wX8_readResult_0 (S : St) (x1 : Int) (x2 : Int) (k : Int → St → Prop) : Prop :=
  wX8_is S 23 (fun x_2 => (x_2 = 0 → wX8_is S 22 (fun x_5 => (x_5 = 0 → wX8_readResult_29 S x1 x2 (-1) k) ∧ (¬ x_5 = 0 → wX8_readResult_29 S x1 x2 (-3) k))) ∧ (¬ x_2 = 0 → wX8_readResult_29 S x1 x2 (-2) k))
def wX8_readResult (S : St) (x1 : Int) (x2 : Int) (k : Int → St → Prop) : Prop := wX8_readResult_0 S x1 x2 k
def wX8_readKind_0 (S : St) (x1 : Int) (k : Int → St → Prop) : Prop :=
  wX8_is S 22 (fun x_2 => (x_2 = 0 → wX8_takeNamed S x1 (fun x_4 S_4 => k x_4 S_4)) ∧ (¬ x_2 = 0 → wX8_next S (fun S_5 => k (-3) S_5)))
def wX8_readKind (S : St) (x1 : Int) (k : Int → St → Prop) : Prop := wX8_readKind_0 S x1 k
def wX8_readMember_257 (S : St) (x1 : Int) (x2 : Int) (x3 : Int) (x4 : Int) (x5 : Int) (x6 : Int) (x7 : Int) (x8 : Int) (s0 : Int) (P205 : Int → Int → St → Prop) (k : St → Prop) : Prop :=
  (s0 = 0 → P205 x8 s0 S) ∧ (¬ s0 = 0 → wX8_next S (fun S_2 => P205 x8 s0 S_2))
def wX8_readMember_256 (S : St) (x1 : Int) (x2 : Int) (x3 : Int) (x4 : Int) (x5 : Int) (x6 : Int) (x7 : Int) (x8 : Int) (P205 : Int → Int → St → Prop) (k : St → Prop) : Prop :=
  wX8_readMember_257 S x1 x2 x3 x4 x5 x6 x7 x8 0 P205 k
def wX8_readMember_349 (S : St) (x2 : Int) (x6 : Int) (x7 : Int) (x8 : Int) (s1 : Int) (s2 : Int) (k : St → Prop) : Prop :=
  (0 ≤ s1 ∧ s1 < 240) ∧ (∀ S_1 : St, S_1 = up S 31 s1 s2 → (0 ≤ x7 ∧ x7 < 240) ∧ (∀ S_3 : St, S_3 = up S_1 32 x7 x8 → (0 ≤ w32 (w32 (3 * x7) + 2) ∧ w32 (w32 (3 * x7) + 2) < 720) ∧ (∀ S_9 : St, S_9 = up S_3 33 (w32 (w32 (3 * x7) + 2)) x6 → (0 ≤ S_9 0 10 ∧ S_9 0 10 < 2) ∧ ((0 ≤ S_9 0 10 ∧ S_9 0 10 < 2) ∧ (∀ S_15 : St, S_15 = up S_9 4 (S_9 0 10) (w32 (S_9 4 (S_9 0 10) + 1)) → (0 ≤ x2 ∧ x2 < 48) ∧ ((0 ≤ x2 ∧ x2 < 48) ∧ (∀ S_20 : St, S_20 = up S_15 25 x2 (w32 (S_15 25 x2 + 1)) → k S_20)))))))
def wX8_readMember_323 (S : St) (x2 : Int) (x3 : Int) (x5 : Int) (x6 : Int) (x7 : Int) (x8 : Int) (s1 : Int) (s2 : Int) (k : St → Prop) : Prop :=
  (0 ≤ s1 ∧ s1 < 240) ∧ (∀ S_1 : St, S_1 = up S 30 s1 s2 → (x5 < 0 → (x3 = 0 → wX8_readMember_349 S_1 x2 x6 x7 x8 x7 0 k) ∧ (¬ x3 = 0 → wX8_readMember_349 S_1 x2 x6 x7 x8 x7 2 k)) ∧ (0 ≤ x5 → wX8_readMember_349 S_1 x2 x6 x7 x8 x7 x5 k))
def wX8_readMember_271 (S : St) (x1 : Int) (x2 : Int) (x3 : Int) (x4 : Int) (x5 : Int) (x6 : Int) (x7 : Int) (x8 : Int) (k : St → Prop) : Prop :=
  wX8_take S 41 (fun S_2 => wX8_take S_2 59 (fun S_4 => wX8_goesOn S_4 (fun x_5 => (x_5 = 0 → k S_4) ∧ (¬ x_5 = 0 → (0 ≤ x7 ∧ x7 < 240) ∧ (∀ S_8 : St, S_8 = up S_4 28 x7 x1 → (x4 < 0 → (x3 = 0 → wX8_readMember_323 S_8 x2 x3 x5 x6 x7 x8 x7 1 k) ∧ (¬ x3 = 0 → wX8_readMember_323 S_8 x2 x3 x5 x6 x7 x8 x7 3 k)) ∧ (0 ≤ x4 → wX8_readMember_323 S_8 x2 x3 x5 x6 x7 x8 x7 x4 k))))))
def wX8_readMember_205_b (S : St) (x1 : Int) (x2 : Int) (x3 : Int) (x4 : Int) (x5 : Int) (x6 : Int) (x7 : Int) (x8 : Int) (x9 : Int) (P205 : Int → Int → St → Prop) (k : St → Prop) : Prop :=
  (x9 = 0 → wX8_readMember_271 S x1 x2 x3 x4 x5 x6 x7 x8 k) ∧ (¬ x9 = 0 → wX8_goesOn S (fun x_2 => (x_2 = 0 → wX8_readMember_271 S x1 x2 x3 x4 x5 x6 x7 x8 k) ∧ (¬ x_2 = 0 → wX8_readKind S x1 (fun x_8 S_8 => (0 ≤ w32 (w32 (3 * x7) + x8) ∧ w32 (w32 (3 * x7) + x8) < 720) ∧ (∀ S_9 : St, S_9 = up S_8 33 (w32 (w32 (3 * x7) + x8)) x_8 → ∀ x_10 : Int, x_10 = w32 (x8 + 1) → wX8_is S_9 44 (fun x_12 => (x_12 = 0 → wX8_readMember_256 S_9 x1 x2 x3 x4 x5 x6 x7 x_10 P205 k) ∧ (¬ x_12 = 0 → (2 ≤ x_10 → wX8_readMember_256 S_9 x1 x2 x3 x4 x5 x6 x7 x_10 P205 k) ∧ (x_10 < 2 → wX8_readMember_257 S_9 x1 x2 x3 x4 x5 x6 x7 x_10 1 P205 k))))))))
def wX8_readMember_205 (S : St) (x1 : Int) (x2 : Int) (x3 : Int) (x4 : Int) (x5 : Int) (x6 : Int) (x7 : Int) (x8 : Int) (x9 : Int) (k : St → Prop) : Prop :=
  wlp (fun (P : Int × Int × St → Prop) (a : Int × Int × St) => wX8_readMember_205_b a.2.2 x1 x2 x3 x4 x5 x6 x7 a.1 a.2.1 (fun b0 b1 b2 => P (b0, b1, b2)) k) (x8, x9, S)
def wX8_readMember_117 (S : St) (x1 : Int) (x2 : Int) (x3 : Int) (x4 : Int) (x5 : Int) (s1 : Int) (s2 : Int) (k : St → Prop) : Prop :=
  wX8_readResult S s1 s2 (fun x_1 S_1 => wX8_goesOn S_1 (fun x_2 => (¬ x_2 = 0 → (0 ≤ S_1 0 10 ∧ S_1 0 10 < 2) ∧ (wX8_m S_1 (S_1 4 (S_1 0 10)) (fun x_7 => wX8_is S_1 2 (fun x_9 => (¬ x_9 = 0 → (0 ≤ x_7 ∧ x_7 < 240) ∧ (∀ S_13 : St, S_13 = up S_1 29 x_7 (S_1 0 7) → wX8_next S_13 (fun S_14 => wX8_take S_14 40 (fun S_16 => wX8_goesOn S_16 (fun x_18 => (x_18 = 0 → wX8_readMember_205 S_16 x1 x2 x3 x4 x5 x_1 x_7 0 0 k) ∧ (¬ x_18 = 0 → (S_16 0 5 = 41 → wX8_readMember_205 S_16 x1 x2 x3 x4 x5 x_1 x_7 0 0 k) ∧ (¬ S_16 0 5 = 41 → wX8_readMember_205 S_16 x1 x2 x3 x4 x5 x_1 x_7 0 1 k))))))) ∧ (x_9 = 0 → wX8_odd S_1 (fun S_26 => k S_26)))))) ∧ (x_2 = 0 → k S_1)))
def wX8_readMember_116 (S : St) (x1 : Int) (x2 : Int) (x3 : Int) (x4 : Int) (x5 : Int) (s1 : Int) (k : St → Prop) : Prop :=
  wX8_readMember_117 S x1 x2 x3 x4 x5 s1 0 k
def wX8_readMember_86 (S : St) (x1 : Int) (x2 : Int) (x3 : Int) (x4 : Int) (s0 : Int) (k : St → Prop) : Prop :=
  wX8_goesOn S (fun x_1 => (¬ x_1 = 0 → (x3 = 0 → wX8_readMember_116 S x1 x2 x3 x4 s0 x1 k) ∧ (¬ x3 = 0 → (¬ x4 = 0 → wX8_readMember_116 S x1 x2 x3 x4 s0 x1 k) ∧ (x4 = 0 → (0 ≤ s0 → wX8_readMember_116 S x1 x2 x3 x4 s0 x1 k) ∧ (s0 < 0 → wX8_readMember_117 S x1 x2 x3 x4 s0 x1 1 k)))) ∧ (x_1 = 0 → k S))
def wX8_readMember_53 (S : St) (x1 : Int) (x2 : Int) (x3 : Int) (s1 : Int) (k : St → Prop) : Prop :=
  (s1 = 0 ∨ s1 = 1) ∧ (∀ S_1 : St, S_1 = up S 0 48 s1 → wX8_readAccess S_1 x3 (fun x_2 S_2 => wX8_goesOn S_2 (fun x_3 => (x_3 = 0 → wX8_readMember_86 S_2 x1 x2 x3 x_2 (-1) k) ∧ (¬ x_3 = 0 → (0 ≤ x2 ∧ x2 < 48) ∧ (wX8_readShape S_2 (S_2 11 x2) x_2 (fun x_8 S_8 => wX8_readMember_86 S_8 x1 x2 x3 x_2 x_8 k))))))
def wX8_readMember_48 (S : St) (x1 : Int) (x2 : Int) (x3 : Int) (k : St → Prop) : Prop :=
  wX8_readMember_53 S x1 x2 x3 1 k
def wX8_readMember_21 (S : St) (x1 : Int) (x2 : Int) (s0 : Int) (k : St → Prop) : Prop :=
  (0 ≤ x2 ∧ x2 < 48) ∧ ((S 25 x2 = 8 → wX8_readMember_48 S x1 x2 s0 k) ∧ (¬ S 25 x2 = 8 → (0 ≤ S 0 10 ∧ S 0 10 < 2) ∧ ((¬ S 4 (S 0 10) = 120 → wX8_readMember_53 S x1 x2 s0 0 k) ∧ (S 4 (S 0 10) = 120 → wX8_readMember_48 S x1 x2 s0 k))))
def wX8_readMember_0 (S : St) (x1 : Int) (k : St → Prop) : Prop :=
  wX8_t S x1 (fun x_1 => (0 ≤ x_1 ∧ x_1 < 48) ∧ ((¬ S 11 x_1 = 2 → wX8_readMember_21 S x1 x_1 0 k) ∧ (S 11 x_1 = 2 → wX8_readMember_21 S x1 x_1 1 k)))
def wX8_readMember (S : St) (x1 : Int) (k : St → Prop) : Prop := wX8_readMember_0 S x1 k
def wX8_puts_48 (S : St) (x2 : Int) (x4 : Int) (x5 : Int) (k : Int → St → Prop) : Prop :=
  wX8_t S x2 (fun x_2 => (0 ≤ x_2 ∧ x_2 < 48) ∧ ((S 13 x_2 ≤ 1 → k 0 S) ∧ (1 < S 13 x_2 → (0 ≤ w32 (w32 (2 * x5) + 1) ∧ w32 (w32 (2 * x5) + 1) < 2304) ∧ ((S 23 (w32 (w32 (2 * x5) + 1)) = x4 → k 0 S) ∧ (¬ S 23 (w32 (w32 (2 * x5) + 1)) = x4 → k 1 S)))))
def wX8_puts_0 (S : St) (x1 : Int) (x2 : Int) (x3 : Int) (x4 : Int) (k : Int → St → Prop) : Prop :=
  wX8_t S x1 (fun x_2 => ∀ x_5 : Int, x_5 = w32 (w32 (24 * x_2) + x2) → (0 ≤ x_5 ∧ x_5 < 1152) ∧ ((S 22 x_5 = 0 → (0 ≤ x_5 ∧ x_5 < 1152) ∧ (∀ S_11 : St, S_11 = up S 22 x_5 1 → wX8_t S_11 x1 (fun x_14 => wX8_t S_11 x1 (fun x_17 => (0 ≤ x_17 ∧ x_17 < 48) ∧ ((0 ≤ w32 (w32 (24 * x_14) + S_11 20 x_17) ∧ w32 (w32 (24 * x_14) + S_11 20 x_17) < 1152) ∧ (∀ S_20 : St, S_20 = up S_11 21 (w32 (w32 (24 * x_14) + S_11 20 x_17)) x2 → wX8_t S_20 x1 (fun x_22 => (0 ≤ x_22 ∧ x_22 < 48) ∧ ((0 ≤ x_22 ∧ x_22 < 48) ∧ (∀ S_26 : St, S_26 = up S_20 20 x_22 (w32 (S_20 20 x_22 + 1)) → (0 ≤ w32 (2 * x_5) ∧ w32 (2 * x_5) < 2304) ∧ (∀ S_30 : St, S_30 = up S_26 23 (w32 (2 * x_5)) x3 → (0 ≤ w32 (w32 (2 * x_5) + 1) ∧ w32 (w32 (2 * x_5) + 1) < 2304) ∧ (∀ S_36 : St, S_36 = up S_30 23 (w32 (w32 (2 * x_5) + 1)) x4 → k 0 S_36))))))))))) ∧ (¬ S 22 x_5 = 0 → wX8_t S x2 (fun x_39 => (0 ≤ x_39 ∧ x_39 < 48) ∧ ((S 13 x_39 ≤ 0 → wX8_puts_48 S x2 x4 x_5 k) ∧ (0 < S 13 x_39 → (0 ≤ w32 (2 * x_5) ∧ w32 (2 * x_5) < 2304) ∧ ((¬ S 23 (w32 (2 * x_5)) = x3 → k 1 S) ∧ (S 23 (w32 (2 * x_5)) = x3 → wX8_puts_48 S x2 x4 x_5 k))))))))
def wX8_puts (S : St) (x1 : Int) (x2 : Int) (x3 : Int) (x4 : Int) (k : Int → St → Prop) : Prop := wX8_puts_0 S x1 x2 x3 x4 k
def wX8_replaced_0 (S : St) (x1 : Int) (x2 : Int) (k : Int → Prop) : Prop :=
  (x1 < 100 → k x1) ∧ (100 ≤ x1 → (0 ≤ w32 ((w32 (w32 (2 * x2) + x1)) - 100) ∧ w32 ((w32 (w32 (2 * x2) + x1)) - 100) < 480) ∧ (k (S 18 (w32 ((w32 (w32 (2 * x2) + x1)) - 100)))))
def wX8_replaced (S : St) (x1 : Int) (x2 : Int) (k : Int → Prop) : Prop := wX8_replaced_0 S x1 x2 k
def wX8_isTorn_239 (S : St) (x1 : Int) (x2 : Int) (x4 : Int) (x5 : Int) (x6 : Int) (x7 : Int) (P44 : Int → Int → St → Prop) (P115 : Int → Int → St → Prop) (k : Int → St → Prop) : Prop :=
  ∀ x_2 : Int, x_2 = w32 (x7 + 1) → P115 1 x_2 S
def wX8_isTorn_219 (S : St) (x1 : Int) (x2 : Int) (x3 : Int) (x4 : Int) (x5 : Int) (x6 : Int) (x7 : Int) (x8 : Int) (x9 : Int) (s0 : Int) (P44 : Int → Int → St → Prop) (P115 : Int → Int → St → Prop) (k : Int → St → Prop) : Prop :=
  wX8_puts S x1 x8 x9 s0 (fun x_1 S_1 => (¬ x_1 = 0 → wX8_isTorn_239 S_1 x1 x2 x4 x5 x6 x7 P44 P115 k) ∧ (x_1 = 0 → (x3 = 0 → ∀ x_5 : Int, x_5 = w32 (x7 + 1) → P115 0 x_5 S_1) ∧ (¬ x3 = 0 → wX8_isTorn_239 S_1 x1 x2 x4 x5 x6 x7 P44 P115 k)))
def wX8_isTorn_183 (S : St) (x1 : Int) (x2 : Int) (x3 : Int) (x4 : Int) (x5 : Int) (x6 : Int) (x7 : Int) (x8 : Int) (s0 : Int) (P44 : Int → Int → St → Prop) (P115 : Int → Int → St → Prop) (k : Int → St → Prop) : Prop :=
  wX8_t S x8 (fun x_2 => (0 ≤ x_2 ∧ x_2 < 48) ∧ ((S 13 x_2 ≤ 1 → wX8_isTorn_219 S x1 x2 x3 x4 x5 x6 x7 x8 s0 (-1) P44 P115 k) ∧ (1 < S 13 x_2 → wX8_seenVar S x6 x8 1 (fun x_8 => wX8_replaced S x_8 x5 (fun x_9 => wX8_isTorn_219 S x1 x2 x3 x4 x5 x6 x7 x8 s0 x_9 P44 P115 k)))))
def wX8_isTorn_115_b (S : St) (x1 : Int) (x2 : Int) (x3 : Int) (x4 : Int) (x5 : Int) (x6 : Int) (x7 : Int) (P44 : Int → Int → St → Prop) (P115 : Int → Int → St → Prop) (k : Int → St → Prop) : Prop :=
  wX8_t S x6 (fun x_2 => (0 ≤ x_2 ∧ x_2 < 48) ∧ ((S 20 x_2 ≤ x7 → ∀ x_5 : Int, x_5 = w32 (x4 + 1) → P44 x3 x_5 S) ∧ (x7 < S 20 x_2 → wX8_t S x6 (fun x_8 => (0 ≤ w32 (w32 (24 * x_8) + x7) ∧ w32 (w32 (24 * x_8) + x7) < 1152) ∧ (∀ x_12 : Int, x_12 = S 21 (w32 (w32 (24 * x_8) + x7)) → wX8_t S x_12 (fun x_14 => (0 ≤ x_14 ∧ x_14 < 48) ∧ ((S 13 x_14 ≤ 0 → wX8_isTorn_183 S x1 x2 x3 x4 x5 x6 x7 x_12 (-1) P44 P115 k) ∧ (0 < S 13 x_14 → wX8_seenVar S x6 x_12 0 (fun x_19 => wX8_replaced S x_19 x5 (fun x_20 => wX8_isTorn_183 S x1 x2 x3 x4 x5 x6 x7 x_12 x_20 P44 P115 k))))))))))
def wX8_isTorn_115 (S : St) (x1 : Int) (x2 : Int) (x3 : Int) (x4 : Int) (x5 : Int) (x6 : Int) (x7 : Int) (P44 : Int → Int → St → Prop) (k : Int → St → Prop) : Prop :=
  wlp (fun (P : Int × Int × St → Prop) (a : Int × Int × St) => wX8_isTorn_115_b a.2.2 x1 x2 a.1 x4 x5 x6 a.2.1 P44 (fun b0 b1 b2 => P (b0, b1, b2)) k) (x3, x7, S)
def wX8_isTorn_106 (S : St) (x1 : Int) (x2 : Int) (x4 : Int) (x5 : Int) (x6 : Int) (P44 : Int → Int → St → Prop) (k : Int → St → Prop) : Prop :=
  wX8_isTorn_115 S x1 x2 1 x4 x5 x6 0 P44 k
def wX8_isTorn_44_b (S : St) (x1 : Int) (x2 : Int) (x3 : Int) (x4 : Int) (P44 : Int → Int → St → Prop) (k : Int → St → Prop) : Prop :=
  (0 ≤ x2 ∧ x2 < 48) ∧ ((S 16 x2 ≤ x4 → (x3 = 0 ∨ x3 = 1) ∧ k x3 S) ∧ (x4 < S 16 x2 → ∀ x_7 : Int, x_7 = w32 (w32 (5 * x2) + x4) → (0 ≤ x_7 ∧ x_7 < 240) ∧ (∀ x_10 : Int, x_10 = S 17 x_7 → (0 ≤ w32 (2 * x_7) ∧ w32 (2 * x_7) < 480) ∧ ((0 ≤ w32 (w32 (2 * x_7) + 1) ∧ w32 (w32 (2 * x_7) + 1) < 480) ∧ (wX8_puts S x1 x_10 (S 18 (w32 (2 * x_7))) (S 18 (w32 (w32 (2 * x_7) + 1))) (fun x_21 S_21 => (¬ x_21 = 0 → wX8_isTorn_106 S_21 x1 x2 x4 x_7 x_10 P44 k) ∧ (x_21 = 0 → (x3 = 0 → wX8_isTorn_115 S_21 x1 x2 0 x4 x_7 x_10 0 P44 k) ∧ (¬ x3 = 0 → wX8_isTorn_106 S_21 x1 x2 x4 x_7 x_10 P44 k))))))))
def wX8_isTorn_44 (S : St) (x1 : Int) (x2 : Int) (x3 : Int) (x4 : Int) (k : Int → St → Prop) : Prop :=
  wlp (fun (P : Int × Int × St → Prop) (a : Int × Int × St) => wX8_isTorn_44_b a.2.2 x1 x2 a.1 a.2.1 (fun b0 b1 b2 => P (b0, b1, b2)) k) (x3, x4, S)
def wX8_isTorn_15_b (S : St) (x1 : Int) (x2 : Int) (x3 : Int) (P15 : Int → St → Prop) (k : Int → St → Prop) : Prop :=
  (24 ≤ x3 → wX8_isTorn_44 S x1 x2 0 0 k) ∧ (x3 < 24 → (0 ≤ w32 (w32 (24 * x2) + x3) ∧ w32 (w32 (24 * x2) + x3) < 1152) ∧ (∀ S_10 : St, S_10 = up S 22 (w32 (w32 (24 * x2) + x3)) 0 → ∀ x_11 : Int, x_11 = w32 (x3 + 1) → P15 x_11 S_10))
def wX8_isTorn_15 (S : St) (x1 : Int) (x2 : Int) (x3 : Int) (k : Int → St → Prop) : Prop :=
  wlp (fun (P : Int × St → Prop) (a : Int × St) => wX8_isTorn_15_b a.2 x1 x2 a.1 (fun b0 b1 => P (b0, b1)) k) (x3, S)
def wX8_isTorn_0 (S : St) (x1 : Int) (k : Int → St → Prop) : Prop :=
  wX8_t S x1 (fun x_1 => (0 ≤ x_1 ∧ x_1 < 48) ∧ (∀ S_4 : St, S_4 = up S 20 x_1 0 → wX8_isTorn_15 S_4 x1 x_1 0 k))
def wX8_isTorn (S : St) (x1 : Int) (k : Int → St → Prop) : Prop := wX8_isTorn_0 S x1 k
def wX8_isTwice_64 (S : St) (x3 : Int) (x5 : Int) (x6 : Int) (P30 : Int → Int → Prop) (P42 : Int → Int → Prop) (k : Int → Prop) : Prop :=
  ∀ x_2 : Int, x_2 = w32 (x6 + 1) → P42 1 x_2
def wX8_isTwice_42_b (S : St) (x3 : Int) (x4 : Int) (x5 : Int) (x6 : Int) (P30 : Int → Int → Prop) (P42 : Int → Int → Prop) (k : Int → Prop) : Prop :=
  (x3 ≤ x6 → ∀ x_2 : Int, x_2 = w32 (x5 + 1) → P30 x4 x_2) ∧ (x6 < x3 → (¬ x4 = 0 → wX8_isTwice_64 S x3 x5 x6 P30 P42 k) ∧ (x4 = 0 → wX8_isErasedLike S x5 x6 (fun x_4 => (x_4 = 0 → ∀ x_7 : Int, x_7 = w32 (x6 + 1) → P42 0 x_7) ∧ (¬ x_4 = 0 → wX8_isTwice_64 S x3 x5 x6 P30 P42 k))))
def wX8_isTwice_42 (S : St) (x3 : Int) (x4 : Int) (x5 : Int) (x6 : Int) (P30 : Int → Int → Prop) (k : Int → Prop) : Prop :=
  wlp (fun (P : Int × Int → Prop) (a : Int × Int) => wX8_isTwice_42_b S x3 a.1 x5 a.2 P30 (fun b0 b1 => P (b0, b1)) k) (x4, x6)
def wX8_isTwice_30_b (S : St) (x3 : Int) (x4 : Int) (x5 : Int) (P30 : Int → Int → Prop) (k : Int → Prop) : Prop :=
  (x3 ≤ x5 → (x4 = 0 ∨ x4 = 1) ∧ k x4) ∧ (x5 < x3 → ∀ x_4 : Int, x_4 = w32 (x5 + 1) → wX8_isTwice_42 S x3 x4 x5 x_4 P30 k)
def wX8_isTwice_30 (S : St) (x3 : Int) (x4 : Int) (x5 : Int) (k : Int → Prop) : Prop :=
  wlp (fun (P : Int × Int → Prop) (a : Int × Int) => wX8_isTwice_30_b S x3 a.1 a.2 (fun b0 b1 => P (b0, b1)) k) (x4, x5)
def wX8_isTwice_0 (S : St) (x1 : Int) (k : Int → Prop) : Prop :=
  wX8_t S x1 (fun x_2 => (0 ≤ x_2 ∧ x_2 < 48) ∧ (∀ x_4 : Int, x_4 = S 24 x_2 → wX8_t S x1 (fun x_6 => (0 ≤ x_6 ∧ x_6 < 48) ∧ (∀ x_9 : Int, x_9 = w32 (x_4 + S 25 x_6) → wX8_isTwice_30 S x_9 0 x_4 k))))
def wX8_isTwice (S : St) (x1 : Int) (k : Int → Prop) : Prop := wX8_isTwice_0 S x1 k
def wX8_isOver_0 (S : St) (x1 : Int) (x2 : Int) (k : Int → Prop) : Prop :=
  wX8_m S x1 (fun x_3 => (0 ≤ w32 (w32 (120 * x_3) + x2) ∧ w32 (w32 (120 * x_3) + x2) < 28800) ∧ ((S 34 (w32 (w32 (120 * x_3) + x2)) = 0 ∨ S 34 (w32 (w32 (120 * x_3) + x2)) = 1) ∧ k (S 34 (w32 (w32 (120 * x_3) + x2)))))
def wX8_isOver (S : St) (x1 : Int) (x2 : Int) (k : Int → Prop) : Prop := wX8_isOver_0 S x1 x2 k
def wX8_isAkin_78_b (S : St) (x2 : Int) (x3 : Int) (x4 : Int) (x5 : Int) (P78 : Int → Int → Prop) (k : Int → Prop) : Prop :=
  (0 ≤ S 0 10 ∧ S 0 10 < 2) ∧ ((S 4 (S 0 10) ≤ x5 → (x4 = 0 ∨ x4 = 1) ∧ k x4) ∧ (x5 < S 4 (S 0 10) → (¬ x4 = 0 → (x4 = 0 ∨ x4 = 1) ∧ k x4) ∧ (x4 = 0 → (x5 = x3 → ∀ x_8 : Int, x_8 = w32 (x5 + 1) → P78 0 x_8) ∧ (¬ x5 = x3 → wX8_isOver S x2 x5 (fun x_9 => (x_9 = 0 → ∀ x_12 : Int, x_12 = w32 (x5 + 1) → P78 0 x_12) ∧ (¬ x_9 = 0 → wX8_isOver S x5 x3 (fun x_13 => (x_13 = 0 → ∀ x_16 : Int, x_16 = w32 (x5 + 1) → P78 0 x_16) ∧ (¬ x_13 = 0 → ∀ x_18 : Int, x_18 = w32 (x5 + 1) → P78 1 x_18))))))))
def wX8_isAkin_78 (S : St) (x2 : Int) (x3 : Int) (x4 : Int) (x5 : Int) (k : Int → Prop) : Prop :=
  wlp (fun (P : Int × Int → Prop) (a : Int × Int) => wX8_isAkin_78_b S x2 x3 a.1 a.2 (fun b0 b1 => P (b0, b1)) k) (x4, x5)
def wX8_isAkin_0 (S : St) (x1 : Int) (x2 : Int) (x3 : Int) (k : Int → Prop) : Prop :=
  wX8_isLike S x1 x2 x3 (fun x_1 => (x_1 = 0 → k 0) ∧ (¬ x_1 = 0 → wX8_m S x2 (fun x_5 => (0 ≤ x_5 ∧ x_5 < 240) ∧ ((S 30 x_5 = 0 → k 0) ∧ (¬ S 30 x_5 = 0 → wX8_m S x3 (fun x_10 => (0 ≤ x_10 ∧ x_10 < 240) ∧ ((¬ S 30 x_10 = 0 → wX8_m S x3 (fun x_14 => (0 ≤ x_14 ∧ x_14 < 240) ∧ ((1 < S 30 x_14 → k 1) ∧ (S 30 x_14 ≤ 1 → wX8_m S x3 (fun x_20 => (0 ≤ x_20 ∧ x_20 < 240) ∧ (wX8_isSamePackage S x1 (S 28 x_20) (fun x_22 => (x_22 = 0 → wX8_isAkin_78 S x2 x3 0 0 k) ∧ (¬ x_22 = 0 → k 1)))))))) ∧ (S 30 x_10 = 0 → k 0))))))))
def wX8_isAkin (S : St) (x1 : Int) (x2 : Int) (x3 : Int) (k : Int → Prop) : Prop := wX8_isAkin_0 S x1 x2 x3 k
def wX8_findOver_172 (S : St) (x1 : Int) (x2 : Int) (x3 : Int) (x4 : Int) (s1 : Int) (s2 : Int) (P13 : Int → St → Prop) (P67 : Int → St → Prop) (k : St → Prop) : Prop :=
  (0 ≤ s1 ∧ s1 < 28800) ∧ ((s2 = 0 ∨ s2 = 1) ∧ (∀ S_1 : St, S_1 = up S 34 s1 s2 → ∀ x_2 : Int, x_2 = w32 (x4 + (-1)) → P67 x_2 S_1))
def wX8_findOver_171 (S : St) (x1 : Int) (x2 : Int) (x3 : Int) (x4 : Int) (s1 : Int) (P13 : Int → St → Prop) (P67 : Int → St → Prop) (k : St → Prop) : Prop :=
  wX8_findOver_172 S x1 x2 x3 x4 s1 0 P13 P67 k
def wX8_findOver_134 (S : St) (x1 : Int) (x2 : Int) (x3 : Int) (x4 : Int) (s0 : Int) (P13 : Int → St → Prop) (P67 : Int → St → Prop) (k : St → Prop) : Prop :=
  wX8_m S x3 (fun x_3 => (s0 = 0 → wX8_findOver_171 S x1 x2 x3 x4 (w32 (w32 (120 * x_3) + x4)) P13 P67 k) ∧ (¬ s0 = 0 → wX8_isAkin S x1 x3 x4 (fun x_7 => (x_7 = 0 → wX8_findOver_171 S x1 x2 x3 x4 (w32 (w32 (120 * x_3) + x4)) P13 P67 k) ∧ (¬ x_7 = 0 → wX8_findOver_172 S x1 x2 x3 x4 (w32 (w32 (120 * x_3) + x4)) 1 P13 P67 k))))
def wX8_findOver_133 (S : St) (x1 : Int) (x2 : Int) (x3 : Int) (x4 : Int) (P13 : Int → St → Prop) (P67 : Int → St → Prop) (k : St → Prop) : Prop :=
  wX8_findOver_134 S x1 x2 x3 x4 0 P13 P67 k
def wX8_findOver_67_b (S : St) (x1 : Int) (x2 : Int) (x3 : Int) (x4 : Int) (P13 : Int → St → Prop) (P67 : Int → St → Prop) (k : St → Prop) : Prop :=
  (x4 < 0 → ∀ x_2 : Int, x_2 = w32 (x3 + 1) → P13 x_2 S) ∧ (0 ≤ x4 → wX8_t S x1 (fun x_5 => wX8_m S x4 (fun x_8 => (0 ≤ x_8 ∧ x_8 < 240) ∧ ((0 ≤ w32 (w32 (24 * x_5) + S 28 x_8) ∧ w32 (w32 (24 * x_5) + S 28 x_8) < 1152) ∧ ((S 22 (w32 (w32 (24 * x_5) + S 28 x_8)) = 0 → wX8_findOver_133 S x1 x2 x3 x4 P13 P67 k) ∧ (¬ S 22 (w32 (w32 (24 * x_5) + S 28 x_8)) = 0 → wX8_m S x3 (fun x_14 => (0 ≤ x_14 ∧ x_14 < 240) ∧ ((S 31 x_14 = 1 → wX8_findOver_133 S x1 x2 x3 x4 P13 P67 k) ∧ (¬ S 31 x_14 = 1 → wX8_m S x4 (fun x_19 => (0 ≤ x_19 ∧ x_19 < 240) ∧ ((S 31 x_19 = 1 → wX8_findOver_133 S x1 x2 x3 x4 P13 P67 k) ∧ (¬ S 31 x_19 = 1 → wX8_findOver_134 S x1 x2 x3 x4 1 P13 P67 k))))))))))))
def wX8_findOver_67 (S : St) (x1 : Int) (x2 : Int) (x3 : Int) (x4 : Int) (P13 : Int → St → Prop) (k : St → Prop) : Prop :=
  wlp (fun (P : Int × St → Prop) (a : Int × St) => wX8_findOver_67_b a.2 x1 x2 x3 a.1 P13 (fun b0 b1 => P (b0, b1)) k) (x4, S)
def wX8_findOver_32_b (S : St) (x1 : Int) (x2 : Int) (x3 : Int) (x4 : Int) (P13 : Int → St → Prop) (P32 : Int → St → Prop) (k : St → Prop) : Prop :=
  (120 ≤ x4 → ∀ x_5 : Int, x_5 = w32 (x2 - 1) → wX8_findOver_67 S x1 x2 x3 x_5 P13 k) ∧ (x4 < 120 → wX8_m S x3 (fun x_8 => (0 ≤ w32 (w32 (120 * x_8) + x4) ∧ w32 (w32 (120 * x_8) + x4) < 28800) ∧ (∀ S_12 : St, S_12 = up S 34 (w32 (w32 (120 * x_8) + x4)) 0 → ∀ x_13 : Int, x_13 = w32 (x4 + 1) → P32 x_13 S_12)))
def wX8_findOver_32 (S : St) (x1 : Int) (x2 : Int) (x3 : Int) (x4 : Int) (P13 : Int → St → Prop) (k : St → Prop) : Prop :=
  wlp (fun (P : Int × St → Prop) (a : Int × St) => wX8_findOver_32_b a.2 x1 x2 x3 a.1 P13 (fun b0 b1 => P (b0, b1)) k) (x4, S)
def wX8_findOver_13_b (S : St) (x1 : Int) (x2 : Int) (x3 : Int) (P13 : Int → St → Prop) (k : St → Prop) : Prop :=
  wX8_t S x1 (fun x_2 => (0 ≤ x_2 ∧ x_2 < 48) ∧ ((w32 (x2 + S 25 x_2) ≤ x3 → k S) ∧ (x3 < w32 (x2 + S 25 x_2) → wX8_findOver_32 S x1 x2 x3 0 P13 k)))
def wX8_findOver_13 (S : St) (x1 : Int) (x2 : Int) (x3 : Int) (k : St → Prop) : Prop :=
  wlp (fun (P : Int × St → Prop) (a : Int × St) => wX8_findOver_13_b a.2 x1 x2 a.1 (fun b0 b1 => P (b0, b1)) k) (x3, S)
def wX8_findOver_0 (S : St) (x1 : Int) (k : St → Prop) : Prop :=
  wX8_t S x1 (fun x_2 => (0 ≤ x_2 ∧ x_2 < 48) ∧ (∀ x_4 : Int, x_4 = S 24 x_2 → wX8_findOver_13 S x1 x_4 x_4 k))
def wX8_findOver (S : St) (x1 : Int) (k : St → Prop) : Prop := wX8_findOver_0 S x1 k
def wX8_isNarrow_0 (S : St) (x1 : Int) (x2 : Int) (x3 : Int) (k : Int → Prop) : Prop :=
  wX8_kindSeen S x1 x2 2 (fun x_2 => wX8_kindSeen S x1 x3 2 (fun x_4 => (¬ x_2 = x_4 → wX8_boundOf S x1 x_2 (fun x_6 => wX8_in S x_4 0 23 (fun x_9 => (x_9 = 0 → k 0) ∧ (¬ x_9 = 0 → wX8_in S x_6 0 23 (fun x_14 => (x_14 = 0 → k 0) ∧ (¬ x_14 = 0 → wX8_isUnder S x_6 x_4 (fun x_17 => (x_17 = 0 → k 0) ∧ (¬ x_17 = 0 → k 1)))))))) ∧ (x_2 = x_4 → k 1)))
def wX8_isNarrow (S : St) (x1 : Int) (x2 : Int) (x3 : Int) (k : Int → Prop) : Prop := wX8_isNarrow_0 S x1 x2 x3 k
def wX8_breaksAbove_178 (S : St) (x1 : Int) (x2 : Int) (x4 : Int) (x5 : Int) (P16 : Int → Int → Prop) (P36 : Int → Int → Prop) (k : Int → Prop) : Prop :=
  ∀ x_2 : Int, x_2 = w32 (x5 + 1) → P36 1 x_2
def wX8_breaksAbove_130 (S : St) (x1 : Int) (x2 : Int) (x3 : Int) (x4 : Int) (x5 : Int) (s0 : Int) (P16 : Int → Int → Prop) (P36 : Int → Int → Prop) (k : Int → Prop) : Prop :=
  (¬ x3 = 0 → wX8_breaksAbove_178 S x1 x2 x4 x5 P16 P36 k) ∧ (x3 = 0 → (¬ s0 = 0 → wX8_breaksAbove_178 S x1 x2 x4 x5 P16 P36 k) ∧ (s0 = 0 → wX8_m S x4 (fun x_4 => (0 ≤ x_4 ∧ x_4 < 240) ∧ (wX8_m S x5 (fun x_7 => (0 ≤ x_7 ∧ x_7 < 240) ∧ ((S 30 x_4 < S 30 x_7 → wX8_breaksAbove_178 S x1 x2 x4 x5 P16 P36 k) ∧ (S 30 x_7 ≤ S 30 x_4 → wX8_isNarrow S x1 x4 x5 (fun x_10 => (¬ x_10 = 0 → ∀ x_13 : Int, x_13 = w32 (x5 + 1) → P36 0 x_13) ∧ (x_10 = 0 → wX8_breaksAbove_178 S x1 x2 x4 x5 P16 P36 k)))))))))
def wX8_breaksAbove_122 (S : St) (x1 : Int) (x2 : Int) (x3 : Int) (x4 : Int) (x5 : Int) (s0 : Int) (s1 : Int) (P16 : Int → Int → Prop) (P36 : Int → Int → Prop) (k : Int → Prop) : Prop :=
  (s0 = s1 → wX8_breaksAbove_130 S x1 x2 x3 x4 x5 0 P16 P36 k) ∧ (¬ s0 = s1 → wX8_breaksAbove_130 S x1 x2 x3 x4 x5 1 P16 P36 k)
def wX8_breaksAbove_102 (S : St) (x1 : Int) (x2 : Int) (x3 : Int) (x4 : Int) (x5 : Int) (s0 : Int) (P16 : Int → Int → Prop) (P36 : Int → Int → Prop) (k : Int → Prop) : Prop :=
  wX8_m S x5 (fun x_2 => (0 ≤ x_2 ∧ x_2 < 240) ∧ ((¬ S 31 x_2 = 1 → wX8_breaksAbove_122 S x1 x2 x3 x4 x5 s0 0 P16 P36 k) ∧ (S 31 x_2 = 1 → wX8_breaksAbove_122 S x1 x2 x3 x4 x5 s0 1 P16 P36 k)))
def wX8_breaksAbove_36_b (S : St) (x1 : Int) (x2 : Int) (x3 : Int) (x4 : Int) (x5 : Int) (P16 : Int → Int → Prop) (P36 : Int → Int → Prop) (k : Int → Prop) : Prop :=
  (x2 ≤ x5 → ∀ x_2 : Int, x_2 = w32 (x4 + 1) → P16 x3 x_2) ∧ (x5 < x2 → wX8_t S x1 (fun x_5 => wX8_m S x5 (fun x_8 => (0 ≤ x_8 ∧ x_8 < 240) ∧ ((0 ≤ w32 (w32 (24 * x_5) + S 28 x_8) ∧ w32 (w32 (24 * x_5) + S 28 x_8) < 1152) ∧ ((S 22 (w32 (w32 (24 * x_5) + S 28 x_8)) = 0 → ∀ x_13 : Int, x_13 = w32 (x5 + 1) → P36 x3 x_13) ∧ (¬ S 22 (w32 (w32 (24 * x_5) + S 28 x_8)) = 0 → wX8_isAkin S x1 x4 x5 (fun x_14 => (x_14 = 0 → ∀ x_16 : Int, x_16 = w32 (x5 + 1) → P36 x3 x_16) ∧ (¬ x_14 = 0 → wX8_m S x4 (fun x_18 => (0 ≤ x_18 ∧ x_18 < 240) ∧ ((¬ S 31 x_18 = 1 → wX8_breaksAbove_102 S x1 x2 x3 x4 x5 0 P16 P36 k) ∧ (S 31 x_18 = 1 → wX8_breaksAbove_102 S x1 x2 x3 x4 x5 1 P16 P36 k)))))))))))
def wX8_breaksAbove_36 (S : St) (x1 : Int) (x2 : Int) (x3 : Int) (x4 : Int) (x5 : Int) (P16 : Int → Int → Prop) (k : Int → Prop) : Prop :=
  wlp (fun (P : Int × Int → Prop) (a : Int × Int) => wX8_breaksAbove_36_b S x1 x2 a.1 x4 a.2 P16 (fun b0 b1 => P (b0, b1)) k) (x3, x5)
def wX8_breaksAbove_16_b (S : St) (x1 : Int) (x2 : Int) (x3 : Int) (x4 : Int) (P16 : Int → Int → Prop) (k : Int → Prop) : Prop :=
  wX8_t S x1 (fun x_2 => (0 ≤ x_2 ∧ x_2 < 48) ∧ ((w32 (x2 + S 25 x_2) ≤ x4 → (x3 = 0 ∨ x3 = 1) ∧ k x3) ∧ (x4 < w32 (x2 + S 25 x_2) → wX8_breaksAbove_36 S x1 x2 x3 x4 0 P16 k)))
def wX8_breaksAbove_16 (S : St) (x1 : Int) (x2 : Int) (x3 : Int) (x4 : Int) (k : Int → Prop) : Prop :=
  wlp (fun (P : Int × Int → Prop) (a : Int × Int) => wX8_breaksAbove_16_b S x1 x2 a.1 a.2 (fun b0 b1 => P (b0, b1)) k) (x3, x4)
def wX8_breaksAbove_0 (S : St) (x1 : Int) (k : Int → Prop) : Prop :=
  wX8_t S x1 (fun x_2 => (0 ≤ x_2 ∧ x_2 < 48) ∧ (∀ x_4 : Int, x_4 = S 24 x_2 → wX8_breaksAbove_16 S x1 x_4 0 x_4 k))
def wX8_breaksAbove (S : St) (x1 : Int) (k : Int → Prop) : Prop := wX8_breaksAbove_0 S x1 k
def wX8_isBare_0 (S : St) (x1 : Int) (k : Int → Prop) : Prop :=
  wX8_m S x1 (fun x_2 => (0 ≤ x_2 ∧ x_2 < 240) ∧ ((S 31 x_2 = 1 → k 0) ∧ (¬ S 31 x_2 = 1 → wX8_m S x1 (fun x_8 => (0 ≤ x_8 ∧ x_8 < 240) ∧ ((S 30 x_8 = 0 → k 0) ∧ (¬ S 30 x_8 = 0 → k 1))))))
def wX8_isBare (S : St) (x1 : Int) (k : Int → Prop) : Prop := wX8_isBare_0 S x1 k
def wX8_overridesOne_66 (S : St) (x1 : Int) (x2 : Int) (x3 : Int) (x5 : Int) (P15 : Int → Int → Prop) (k : Int → Prop) : Prop :=
  ∀ x_2 : Int, x_2 = w32 (x5 + 1) → P15 1 x_2
def wX8_overridesOne_15_b (S : St) (x1 : Int) (x2 : Int) (x3 : Int) (x4 : Int) (x5 : Int) (P15 : Int → Int → Prop) (k : Int → Prop) : Prop :=
  wX8_t S x1 (fun x_2 => (0 ≤ x_2 ∧ x_2 < 48) ∧ (wX8_t S x1 (fun x_5 => (0 ≤ x_5 ∧ x_5 < 48) ∧ ((w32 (S 24 x_2 + S 25 x_5) ≤ x5 → (x4 = 0 ∨ x4 = 1) ∧ k x4) ∧ (x5 < w32 (S 24 x_2 + S 25 x_5) → (¬ x4 = 0 → wX8_overridesOne_66 S x1 x2 x3 x5 P15 k) ∧ (x4 = 0 → wX8_isOver S x5 x2 (fun x_10 => (¬ x_10 = 0 → wX8_overridesOne_66 S x1 x2 x3 x5 P15 k) ∧ (x_10 = 0 → wX8_isOver S x5 x3 (fun x_12 => (x_12 = 0 → ∀ x_15 : Int, x_15 = w32 (x5 + 1) → P15 0 x_15) ∧ (¬ x_12 = 0 → wX8_overridesOne_66 S x1 x2 x3 x5 P15 k))))))))))
def wX8_overridesOne_15 (S : St) (x1 : Int) (x2 : Int) (x3 : Int) (x4 : Int) (x5 : Int) (k : Int → Prop) : Prop :=
  wlp (fun (P : Int × Int → Prop) (a : Int × Int) => wX8_overridesOne_15_b S x1 x2 x3 a.1 a.2 (fun b0 b1 => P (b0, b1)) k) (x4, x5)
def wX8_overridesOne_0 (S : St) (x1 : Int) (x2 : Int) (x3 : Int) (k : Int → Prop) : Prop :=
  wX8_t S x1 (fun x_3 => (0 ≤ x_3 ∧ x_3 < 48) ∧ (∀ x_5 : Int, x_5 = S 24 x_3 → wX8_overridesOne_15 S x1 x2 x3 0 x_5 k))
def wX8_overridesOne (S : St) (x1 : Int) (x2 : Int) (x3 : Int) (k : Int → Prop) : Prop := wX8_overridesOne_0 S x1 x2 x3 k
def wX8_clashes_185 (S : St) (x1 : Int) (x2 : Int) (x4 : Int) (x5 : Int) (P16 : Int → Int → Prop) (P28 : Int → Int → Prop) (k : Int → Prop) : Prop :=
  ∀ x_2 : Int, x_2 = w32 (x5 + 1) → P28 1 x_2
def wX8_clashes_28_b (S : St) (x1 : Int) (x2 : Int) (x3 : Int) (x4 : Int) (x5 : Int) (P16 : Int → Int → Prop) (P28 : Int → Int → Prop) (k : Int → Prop) : Prop :=
  (x2 ≤ x5 → ∀ x_2 : Int, x_2 = w32 (x4 + 1) → P16 x3 x_2) ∧ (x5 < x2 → wX8_m S x4 (fun x_4 => (0 ≤ x_4 ∧ x_4 < 240) ∧ (∀ x_6 : Int, x_6 = S 28 x_4 → wX8_m S x5 (fun x_8 => (0 ≤ x_8 ∧ x_8 < 240) ∧ (∀ x_10 : Int, x_10 = S 28 x_8 → wX8_t S x1 (fun x_13 => (0 ≤ w32 (w32 (24 * x_13) + x_6) ∧ w32 (w32 (24 * x_13) + x_6) < 1152) ∧ ((S 22 (w32 (w32 (24 * x_13) + x_6)) = 0 → ∀ x_18 : Int, x_18 = w32 (x5 + 1) → P28 x3 x_18) ∧ (¬ S 22 (w32 (w32 (24 * x_13) + x_6)) = 0 → wX8_t S x1 (fun x_21 => (0 ≤ w32 (w32 (24 * x_21) + x_10) ∧ w32 (w32 (24 * x_21) + x_10) < 1152) ∧ ((S 22 (w32 (w32 (24 * x_21) + x_10)) = 0 → ∀ x_26 : Int, x_26 = w32 (x5 + 1) → P28 x3 x_26) ∧ (¬ S 22 (w32 (w32 (24 * x_21) + x_10)) = 0 → wX8_isUnder S x_6 x_10 (fun x_27 => (¬ x_27 = 0 → ∀ x_29 : Int, x_29 = w32 (x5 + 1) → P28 x3 x_29) ∧ (x_27 = 0 → wX8_isUnder S x_10 x_6 (fun x_30 => (¬ x_30 = 0 → ∀ x_32 : Int, x_32 = w32 (x5 + 1) → P28 x3 x_32) ∧ (x_30 = 0 → wX8_isBare S x4 (fun x_33 => (x_33 = 0 → ∀ x_35 : Int, x_35 = w32 (x5 + 1) → P28 x3 x_35) ∧ (¬ x_33 = 0 → wX8_isBare S x5 (fun x_36 => (x_36 = 0 → ∀ x_38 : Int, x_38 = w32 (x5 + 1) → P28 x3 x_38) ∧ (¬ x_36 = 0 → wX8_isLike S x1 x4 x5 (fun x_39 => (x_39 = 0 → ∀ x_41 : Int, x_41 = w32 (x5 + 1) → P28 x3 x_41) ∧ (¬ x_39 = 0 → wX8_kindSeen S x1 x4 2 (fun x_43 => wX8_kindSeen S x1 x5 2 (fun x_45 => (x_43 = x_45 → ∀ x_47 : Int, x_47 = w32 (x5 + 1) → P28 x3 x_47) ∧ (¬ x_43 = x_45 → (¬ x3 = 0 → wX8_clashes_185 S x1 x2 x4 x5 P16 P28 k) ∧ (x3 = 0 → wX8_overridesOne S x1 x4 x5 (fun x_49 => (¬ x_49 = 0 → ∀ x_52 : Int, x_52 = w32 (x5 + 1) → P28 0 x_52) ∧ (x_49 = 0 → wX8_clashes_185 S x1 x2 x4 x5 P16 P28 k)))))))))))))))))))))))))))
def wX8_clashes_28 (S : St) (x1 : Int) (x2 : Int) (x3 : Int) (x4 : Int) (x5 : Int) (P16 : Int → Int → Prop) (k : Int → Prop) : Prop :=
  wlp (fun (P : Int × Int → Prop) (a : Int × Int) => wX8_clashes_28_b S x1 x2 a.1 x4 a.2 P16 (fun b0 b1 => P (b0, b1)) k) (x3, x5)
def wX8_clashes_16_b (S : St) (x1 : Int) (x2 : Int) (x3 : Int) (x4 : Int) (P16 : Int → Int → Prop) (k : Int → Prop) : Prop :=
  (x2 ≤ x4 → (x3 = 0 ∨ x3 = 1) ∧ k x3) ∧ (x4 < x2 → ∀ x_4 : Int, x_4 = w32 (x4 + 1) → wX8_clashes_28 S x1 x2 x3 x4 x_4 P16 k)
def wX8_clashes_16 (S : St) (x1 : Int) (x2 : Int) (x3 : Int) (x4 : Int) (k : Int → Prop) : Prop :=
  wlp (fun (P : Int × Int → Prop) (a : Int × Int) => wX8_clashes_16_b S x1 x2 a.1 a.2 (fun b0 b1 => P (b0, b1)) k) (x3, x4)
def wX8_clashes_0 (S : St) (x1 : Int) (k : Int → Prop) : Prop :=
  wX8_t S x1 (fun x_2 => (0 ≤ x_2 ∧ x_2 < 48) ∧ (∀ x_4 : Int, x_4 = S 24 x_2 → wX8_clashes_16 S x1 x_4 0 0 k))
def wX8_clashes (S : St) (x1 : Int) (k : Int → Prop) : Prop := wX8_clashes_0 S x1 k
def wX8_hasSought_50 (S : St) (x2 : Int) (x3 : Int) (x5 : Int) (P17 : Int → Int → Prop) (k : Int → Prop) : Prop :=
  ∀ x_2 : Int, x_2 = w32 (x5 + 1) → P17 1 x_2
def wX8_hasSought_113 (S : St) (x2 : Int) (x3 : Int) (x5 : Int) (P66 : Int → Int → Prop) (k : Int → Prop) : Prop :=
  ∀ x_2 : Int, x_2 = w32 (x5 + 1) → P66 1 x_2
def wX8_hasSought_66_b (S : St) (x2 : Int) (x3 : Int) (x4 : Int) (x5 : Int) (P66 : Int → Int → Prop) (k : Int → Prop) : Prop :=
  (0 ≤ x3 ∧ x3 < 48) ∧ ((S 27 x3 ≤ x5 → (x4 = 0 ∨ x4 = 1) ∧ k x4) ∧ (x5 < S 27 x3 → (¬ x4 = 0 → wX8_hasSought_113 S x2 x3 x5 P66 k) ∧ (x4 = 0 → (0 ≤ x3 ∧ x3 < 48) ∧ ((0 ≤ w32 (w32 (w32 (7200 * (S 0 10)) + S 26 x3) + x5) ∧ w32 (w32 (w32 (7200 * (S 0 10)) + S 26 x3) + x5) < 14400) ∧ (wX8_isSought S (S 36 (w32 (w32 (w32 (7200 * (S 0 10)) + S 26 x3) + x5))) x2 (fun x_14 => (x_14 = 0 → ∀ x_17 : Int, x_17 = w32 (x5 + 1) → P66 0 x_17) ∧ (¬ x_14 = 0 → wX8_hasSought_113 S x2 x3 x5 P66 k)))))))
def wX8_hasSought_66 (S : St) (x2 : Int) (x3 : Int) (x4 : Int) (x5 : Int) (k : Int → Prop) : Prop :=
  wlp (fun (P : Int × Int → Prop) (a : Int × Int) => wX8_hasSought_66_b S x2 x3 a.1 a.2 (fun b0 b1 => P (b0, b1)) k) (x4, x5)
def wX8_hasSought_17_b (S : St) (x2 : Int) (x3 : Int) (x4 : Int) (x5 : Int) (P17 : Int → Int → Prop) (k : Int → Prop) : Prop :=
  (0 ≤ x3 ∧ x3 < 48) ∧ ((0 ≤ x3 ∧ x3 < 48) ∧ ((w32 (S 24 x3 + S 25 x3) ≤ x5 → wX8_hasSought_66 S x2 x3 x4 0 k) ∧ (x5 < w32 (S 24 x3 + S 25 x3) → (¬ x4 = 0 → wX8_hasSought_50 S x2 x3 x5 P17 k) ∧ (x4 = 0 → wX8_isSought S x5 x2 (fun x_9 => (x_9 = 0 → ∀ x_12 : Int, x_12 = w32 (x5 + 1) → P17 0 x_12) ∧ (¬ x_9 = 0 → wX8_hasSought_50 S x2 x3 x5 P17 k))))))
def wX8_hasSought_17 (S : St) (x2 : Int) (x3 : Int) (x4 : Int) (x5 : Int) (k : Int → Prop) : Prop :=
  wlp (fun (P : Int × Int → Prop) (a : Int × Int) => wX8_hasSought_17_b S x2 x3 a.1 a.2 (fun b0 b1 => P (b0, b1)) k) (x4, x5)
def wX8_hasSought_0 (S : St) (x1 : Int) (x2 : Int) (k : Int → Prop) : Prop :=
  wX8_t S x1 (fun x_1 => (0 ≤ x_1 ∧ x_1 < 48) ∧ (∀ x_5 : Int, x_5 = S 24 x_1 → wX8_hasSought_17 S x2 x_1 0 x_5 k))
def wX8_hasSought (S : St) (x1 : Int) (x2 : Int) (k : Int → Prop) : Prop := wX8_hasSought_0 S x1 x2 k
def wX8_makeBridges_118_b (S : St) (x1 : Int) (x2 : Int) (x3 : Int) (x4 : Int) (x5 : Int) (x6 : Int) (P35 : Int → St → Prop) (P80 : Int → St → Prop) (P118 : Int → St → Prop) (k : St → Prop) : Prop :=
  (0 ≤ x5 ∧ x5 < 48) ∧ ((0 ≤ x5 ∧ x5 < 48) ∧ ((w32 (S 24 x5 + S 25 x5) ≤ x6 → ∀ x_7 : Int, x_7 = w32 (x4 + 1) → P80 x_7 S) ∧ (x6 < w32 (S 24 x5 + S 25 x5) → wX8_isOver S x3 x6 (fun x_8 => (x_8 = 0 → ∀ x_10 : Int, x_10 = w32 (x6 + 1) → P118 x_10 S) ∧ (¬ x_8 = 0 → wX8_isSought S x3 x6 (fun x_11 => (¬ x_11 = 0 → ∀ x_13 : Int, x_13 = w32 (x6 + 1) → P118 x_13 S) ∧ (x_11 = 0 → wX8_hasSought S x1 x6 (fun x_14 => (¬ x_14 = 0 → ∀ x_16 : Int, x_16 = w32 (x6 + 1) → P118 x_16 S) ∧ (x_14 = 0 → (0 ≤ S 0 10 ∧ S 0 10 < 2) ∧ (∀ x_24 : Int, x_24 = w32 (w32 (7200 * (S 0 10)) + S 5 (S 0 10)) → (0 ≤ x_24 ∧ x_24 < 14400) ∧ (∀ S_26 : St, S_26 = up S 35 x_24 x3 → (0 ≤ x_24 ∧ x_24 < 14400) ∧ (∀ S_28 : St, S_28 = up S_26 36 x_24 x6 → (0 ≤ S_28 0 10 ∧ S_28 0 10 < 2) ∧ ((0 ≤ S_28 0 10 ∧ S_28 0 10 < 2) ∧ (∀ S_34 : St, S_34 = up S_28 5 (S_28 0 10) (w32 (S_28 5 (S_28 0 10) + 1)) → (0 ≤ x2 ∧ x2 < 48) ∧ ((0 ≤ x2 ∧ x2 < 48) ∧ (∀ S_39 : St, S_39 = up S_34 27 x2 (w32 (S_34 27 x2 + 1)) → ∀ x_40 : Int, x_40 = w32 (x6 + 1) → P118 x_40 S_39))))))))))))))))
def wX8_makeBridges_118 (S : St) (x1 : Int) (x2 : Int) (x3 : Int) (x4 : Int) (x5 : Int) (x6 : Int) (P35 : Int → St → Prop) (P80 : Int → St → Prop) (k : St → Prop) : Prop :=
  wlp (fun (P : Int × St → Prop) (a : Int × St) => wX8_makeBridges_118_b a.2 x1 x2 x3 x4 x5 a.1 P35 P80 (fun b0 b1 => P (b0, b1)) k) (x6, S)
def wX8_makeBridges_80_b (S : St) (x1 : Int) (x2 : Int) (x3 : Int) (x4 : Int) (P35 : Int → St → Prop) (P80 : Int → St → Prop) (k : St → Prop) : Prop :=
  (0 ≤ x2 ∧ x2 < 48) ∧ ((S 20 x2 ≤ x4 → ∀ x_4 : Int, x_4 = w32 (x3 + 1) → P35 x_4 S) ∧ (x4 < S 20 x2 → (0 ≤ w32 (w32 (24 * x2) + x4) ∧ w32 (w32 (24 * x2) + x4) < 1152) ∧ (wX8_t S (S 21 (w32 (w32 (24 * x2) + x4))) (fun x_10 => (0 ≤ x_10 ∧ x_10 < 48) ∧ (∀ x_13 : Int, x_13 = S 24 x_10 → wX8_makeBridges_118 S x1 x2 x3 x4 x_10 x_13 P35 P80 k)))))
def wX8_makeBridges_80 (S : St) (x1 : Int) (x2 : Int) (x3 : Int) (x4 : Int) (P35 : Int → St → Prop) (k : St → Prop) : Prop :=
  wlp (fun (P : Int × St → Prop) (a : Int × St) => wX8_makeBridges_80_b a.2 x1 x2 x3 a.1 P35 (fun b0 b1 => P (b0, b1)) k) (x4, S)
def wX8_makeBridges_35_b (S : St) (x1 : Int) (x2 : Int) (x3 : Int) (P35 : Int → St → Prop) (k : St → Prop) : Prop :=
  (0 ≤ x2 ∧ x2 < 48) ∧ ((0 ≤ x2 ∧ x2 < 48) ∧ ((w32 (S 24 x2 + S 25 x2) ≤ x3 → k S) ∧ (x3 < w32 (S 24 x2 + S 25 x2) → wX8_m S x3 (fun x_8 => (0 ≤ x_8 ∧ x_8 < 240) ∧ ((S 31 x_8 = 2 → ∀ x_12 : Int, x_12 = w32 (x3 + 1) → P35 x_12 S) ∧ (¬ S 31 x_8 = 2 → wX8_isBare S x3 (fun x_13 => (¬ x_13 = 0 → wX8_makeBridges_80 S x1 x2 x3 0 P35 k) ∧ (x_13 = 0 → ∀ x_16 : Int, x_16 = w32 (x3 + 1) → P35 x_16 S))))))))
def wX8_makeBridges_35 (S : St) (x1 : Int) (x2 : Int) (x3 : Int) (k : St → Prop) : Prop :=
  wlp (fun (P : Int × St → Prop) (a : Int × St) => wX8_makeBridges_35_b a.2 x1 x2 a.1 (fun b0 b1 => P (b0, b1)) k) (x3, S)
def wX8_makeBridges_0 (S : St) (x1 : Int) (k : St → Prop) : Prop :=
  wX8_t S x1 (fun x_1 => (0 ≤ S 0 10 ∧ S 0 10 < 2) ∧ ((0 ≤ x_1 ∧ x_1 < 48) ∧ (∀ S_6 : St, S_6 = up S 26 x_1 (S 5 (S 0 10)) → (0 ≤ x_1 ∧ x_1 < 48) ∧ (∀ S_9 : St, S_9 = up S_6 27 x_1 0 → (0 ≤ x_1 ∧ x_1 < 48) ∧ (∀ x_12 : Int, x_12 = S_9 24 x_1 → wX8_makeBridges_35 S_9 x1 x_1 x_12 k)))))
def wX8_makeBridges (S : St) (x1 : Int) (k : St → Prop) : Prop := wX8_makeBridges_0 S x1 k
def wX8_close_0 (S : St) (x1 : Int) (k : St → Prop) : Prop :=
  wX8_isTorn S x1 (fun x_1 S_1 => wX8_isTwice S_1 x1 (fun x_2 => (x_2 = 0 → (x_1 = 0 → wX8_findOver S_1 x1 (fun S_5 => wX8_breaksAbove S_5 x1 (fun x_6 => (x_6 = 0 → wX8_clashes S_5 x1 (fun x_8 => (x_8 = 0 → wX8_makeBridges S_5 x1 (fun S_10 => k S_10)) ∧ (¬ x_8 = 0 → wX8_fails S_5 10 (S_5 0 6) (fun S_13 => k S_13)))) ∧ (¬ x_6 = 0 → wX8_fails S_5 9 (S_5 0 6) (fun S_16 => k S_16))))) ∧ (¬ x_1 = 0 → wX8_fails S_1 8 (S_1 0 6) (fun S_19 => k S_19))) ∧ (¬ x_2 = 0 → wX8_fails S_1 7 (S_1 0 6) (fun S_22 => k S_22))))
def wX8_close (S : St) (x1 : Int) (k : St → Prop) : Prop := wX8_close_0 S x1 k
def wX8_readType_328 (S : St) (k : St → Prop) : Prop :=
  wX8_goesOn S (fun x_1 => (x_1 = 0 → k S) ∧ (¬ x_1 = 0 → (0 ≤ S 0 10 ∧ S 0 10 < 2) ∧ ((0 ≤ S 0 10 ∧ S 0 10 < 2) ∧ (∀ S_8 : St, S_8 = up S 3 (S 0 10) (w32 (S 3 (S 0 10) + 1)) → wX8_next S_8 (fun S_9 => k S_9)))))
def wX8_readType_316 (S : St) (x1 : Int) (k : St → Prop) : Prop :=
  wX8_goesOn S (fun x_1 => (x_1 = 0 → wX8_readType_328 S k) ∧ (¬ x_1 = 0 → wX8_close S x1 (fun S_3 => wX8_readType_328 S_3 k)))
def wX8_readType_292_b (S : St) (x1 : Int) (P292 : St → Prop) (k : St → Prop) : Prop :=
  wX8_goesOn S (fun x_1 => (x_1 = 0 → wX8_readType_316 S x1 k) ∧ (¬ x_1 = 0 → (S 0 5 = 125 → wX8_readType_316 S x1 k) ∧ (¬ S 0 5 = 125 → wX8_readMember S x1 (fun S_6 => P292 S_6))))
def wX8_readType_292 (S : St) (x1 : Int) (k : St → Prop) : Prop :=
  wlp (fun (P : St → Prop) (a : St) => wX8_readType_292_b a x1 (fun b0 => P (b0)) k) (S)
def wX8_readType_286 (S : St) (x1 : Int) (k : St → Prop) : Prop :=
  wX8_take S 123 (fun S_2 => wX8_readType_292 S_2 x1 k)
def wX8_readType_272 (S : St) (x1 : Int) (k : St → Prop) : Prop :=
  wX8_is S 58 (fun x_2 => (x_2 = 0 → wX8_readType_286 S x1 k) ∧ (¬ x_2 = 0 → wX8_readRefs S x1 (fun S_4 => wX8_readType_286 S_4 x1 k)))
def wX8_readType_253 (S : St) (x1 : Int) (x3 : Int) (k : St → Prop) : Prop :=
  (2 ≤ x3 → wX8_readType_272 S x1 k) ∧ (x3 < 2 → wX8_is S 14 (fun x_4 => (x_4 = 0 → wX8_readType_272 S x1 k) ∧ (¬ x_4 = 0 → wX8_readNest S x1 (fun S_6 => wX8_readType_272 S_6 x1 k))))
def wX8_readType_106_b (S : St) (x1 : Int) (x2 : Int) (x3 : Int) (x4 : Int) (P106 : Int → Prop) (k : St → Prop) : Prop :=
  (x1 ≤ x4 → (0 ≤ x2 ∧ x2 < 48) ∧ (∀ S_4 : St, S_4 = up S 8 x2 (S 0 7) → (0 ≤ x2 ∧ x2 < 48) ∧ (∀ S_7 : St, S_7 = up S_4 9 x2 (S_4 0 46) → (0 ≤ x2 ∧ x2 < 48) ∧ (∀ S_10 : St, S_10 = up S_7 10 x2 (S_7 0 47) → (0 ≤ x2 ∧ x2 < 48) ∧ (∀ S_12 : St, S_12 = up S_10 11 x2 x3 → (0 ≤ x2 ∧ x2 < 48) ∧ (∀ S_14 : St, S_14 = up S_12 12 x2 x1 → (0 ≤ x2 ∧ x2 < 48) ∧ (∀ S_17 : St, S_17 = up S_14 13 x2 0 → (0 ≤ x2 ∧ x2 < 48) ∧ (∀ S_20 : St, S_20 = up S_17 16 x2 0 → (0 ≤ x2 ∧ x2 < 48) ∧ (∀ S_23 : St, S_23 = up S_20 19 x2 (-13) → (0 ≤ S_23 0 10 ∧ S_23 0 10 < 2) ∧ ((0 ≤ x2 ∧ x2 < 48) ∧ (∀ S_28 : St, S_28 = up S_23 24 x2 (S_23 4 (S_23 0 10)) → (0 ≤ x2 ∧ x2 < 48) ∧ (∀ S_31 : St, S_31 = up S_28 25 x2 0 → wX8_next S_31 (fun S_32 => wX8_is S_32 60 (fun x_34 => (x_34 = 0 → wX8_readType_253 S_32 x1 x3 k) ∧ (¬ x_34 = 0 → wX8_readVars S_32 x1 (fun S_36 => wX8_readType_253 S_36 x1 x3 k)))))))))))))))) ∧ (x4 < x1 → wX8_t S x4 (fun x_38 => (0 ≤ x_38 ∧ x_38 < 48) ∧ ((¬ S 8 x_38 = S 0 7 → ∀ x_43 : Int, x_43 = w32 (x4 + 1) → P106 x_43) ∧ (S 8 x_38 = S 0 7 → wX8_fails S 3 (S 0 6) (fun S_46 => k S_46)))))
def wX8_readType_106 (S : St) (x1 : Int) (x2 : Int) (x3 : Int) (x4 : Int) (k : St → Prop) : Prop :=
  wlp (fun (P : Int → Prop) (a : Int) => wX8_readType_106_b S x1 x2 x3 a (fun b0 => P (b0)) k) (x4)
def wX8_readType_85 (S : St) (x1 : Int) (x2 : Int) (s0 : Int) (k : St → Prop) : Prop :=
  wX8_next S (fun S_1 => wX8_is S_1 2 (fun x_3 => (¬ x_3 = 0 → wX8_readType_106 S_1 x1 x2 s0 0 k) ∧ (x_3 = 0 → wX8_odd S_1 (fun S_6 => k S_6))))
def wX8_readType_71 (S : St) (x1 : Int) (x2 : Int) (x3 : Int) (k : St → Prop) : Prop :=
  wX8_is S 13 (fun x_2 => (x_2 = 0 → wX8_readType_85 S x1 x2 x3 k) ∧ (¬ x_2 = 0 → wX8_readType_85 S x1 x2 2 k))
def wX8_readType_47 (S : St) (x1 : Int) (x2 : Int) (s0 : Int) (k : St → Prop) : Prop :=
  (¬ s0 = 1 → wX8_readType_71 S x1 x2 s0 k) ∧ (s0 = 1 → wX8_next S (fun S_3 => wX8_is S_3 12 (fun x_5 => (¬ x_5 = 0 → wX8_readType_71 S_3 x1 x2 s0 k) ∧ (x_5 = 0 → wX8_odd S_3 (fun S_7 => k S_7)))))
def wX8_readType_0 (S : St) (k : St → Prop) : Prop :=
  (0 ≤ S 0 10 ∧ S 0 10 < 2) ∧ (∀ x_4 : Int, x_4 = S 3 (S 0 10) → (¬ x_4 = 24 → wX8_t S x_4 (fun x_7 => wX8_is S 20 (fun x_9 => (x_9 = 0 → wX8_readType_47 S x_4 x_7 0 k) ∧ (¬ x_9 = 0 → wX8_readType_47 S x_4 x_7 1 k)))) ∧ (x_4 = 24 → wX8_fails S 6 (S 0 6) (fun S_15 => k S_15)))
def wX8_readType (S : St) (k : St → Prop) : Prop := wX8_readType_0 S k
def wX8_compile_147 (S : St) (P74 : St → Prop) (k : Int → St → Prop) : Prop :=
  wX8_readType S (fun S_1 => P74 S_1)
def wX8_compile_161 (S : St) (k : Int → St → Prop) : Prop :=
  ∀ S_2 : St, S_2 = up S 0 1 0 → ∀ S_4 : St, S_4 = up S_2 0 2 (S_2 0 8) → (S_4 0 8 ≤ 0 → ∀ S_8 : St, S_8 = up S_4 0 11 (S_4 0 10) → (0 ≤ S_8 0 10 ∧ S_8 0 10 < 2) ∧ (k (S_8 3 (S_8 0 10)) S_8)) ∧ (0 < S_4 0 8 → k (w32 ((-20) - (S_4 0 9))) S_4)
def wX8_compile_74_b (S : St) (P74 : St → Prop) (k : Int → St → Prop) : Prop :=
  wX8_goesOn S (fun x_1 => (x_1 = 0 → wX8_compile_161 S k) ∧ (¬ x_1 = 0 → (S 0 5 = 0 → wX8_compile_161 S k) ∧ (¬ S 0 5 = 0 → (¬ S 0 5 = 10 → (¬ S 0 5 = 11 → (S 0 5 = 20 → wX8_compile_147 S P74 k) ∧ (¬ S 0 5 = 20 → (S 0 5 = 12 → wX8_compile_147 S P74 k) ∧ (¬ S 0 5 = 12 → (¬ S 0 5 = 13 → wX8_odd S (fun S_20 => P74 S_20)) ∧ (S 0 5 = 13 → wX8_compile_147 S P74 k)))) ∧ (S 0 5 = 11 → wX8_readLoader S (fun S_21 => P74 S_21))) ∧ (S 0 5 = 10 → wX8_readPackage S (fun S_22 => P74 S_22)))))
def wX8_compile_74 (S : St) (k : Int → St → Prop) : Prop :=
  wlp (fun (P : St → Prop) (a : St) => wX8_compile_74_b a (fun b0 => P (b0)) k) (S)
def wX8_compile_0 (S : St) (k : Int → St → Prop) : Prop :=
  ∀ S_4 : St, S_4 = up S 0 10 (w32 (1 - (S 0 11))) → (0 ≤ S_4 0 10 ∧ S_4 0 10 < 2) ∧ (∀ S_8 : St, S_8 = up S_4 3 (S_4 0 10) 0 → (0 ≤ S_8 0 10 ∧ S_8 0 10 < 2) ∧ (∀ S_12 : St, S_12 = up S_8 4 (S_8 0 10) 0 → (0 ≤ S_12 0 10 ∧ S_12 0 10 < 2) ∧ (∀ S_16 : St, S_16 = up S_12 5 (S_12 0 10) 0 → (0 ≤ S_16 0 10 ∧ S_16 0 10 < 2) ∧ (∀ S_20 : St, S_20 = up S_16 6 (S_16 0 10) 0 → ∀ S_22 : St, S_22 = up S_20 0 46 0 → ∀ S_24 : St, S_24 = up S_22 0 47 0 → ∀ S_26 : St, S_26 = up S_24 0 4 0 → ∀ S_28 : St, S_28 = up S_26 0 8 0 → wX8_next S_28 (fun S_29 => wX8_compile_74 S_29 k)))))
def wX8_compile (S : St) (k : Int → St → Prop) : Prop := wX8_compile_0 S k
def wX8_fault_0 (S : St) (k : Int → Prop) : Prop :=
  k (S 0 2)
def wX8_fault (S : St) (k : Int → Prop) : Prop := wX8_fault_0 S k
def wX8_type_0 (S : St) (x1 : Int) (x2 : Int) (k : Int → St → Prop) : Prop :=
  wX8_isType S x1 (fun x_1 S_1 => (¬ x_1 = 0 → wX8_t S_1 x1 (fun x_3 => (x2 = 0 → (0 ≤ x_3 ∧ x_3 < 48) ∧ (k (S_1 9 x_3) S_1)) ∧ (x2 = 1 → (0 ≤ x_3 ∧ x_3 < 48) ∧ (k (S_1 10 x_3) S_1)) ∧ (x2 = 2 → (0 ≤ x_3 ∧ x_3 < 48) ∧ (k (S_1 11 x_3) S_1)) ∧ (x2 = 3 → (0 ≤ x_3 ∧ x_3 < 48) ∧ (k (S_1 19 x_3) S_1)) ∧ (x2 = 4 → (0 ≤ x_3 ∧ x_3 < 48) ∧ (k (S_1 12 x_3) S_1)) ∧ (x2 = 5 → (0 ≤ x_3 ∧ x_3 < 48) ∧ (k (S_1 25 x_3) S_1)) ∧ (x2 = 6 → (0 ≤ x_3 ∧ x_3 < 48) ∧ (k (S_1 27 x_3) S_1)) ∧ (x2 = 7 → (0 ≤ x_3 ∧ x_3 < 48) ∧ (k (S_1 13 x_3) S_1)) ∧ (x2 = 8 → (0 ≤ x_3 ∧ x_3 < 48) ∧ (k (S_1 20 x_3) S_1)) ∧ (x2 = 9 → (0 ≤ x_3 ∧ x_3 < 48) ∧ ((S_1 25 x_3 ≤ 0 → k (-13) S_1) ∧ (0 < S_1 25 x_3 → (0 ≤ x_3 ∧ x_3 < 48) ∧ (k (S_1 24 x_3) S_1)))) ∧ (x2 < 0 ∨ 9 < x2 → k (-12) S_1))) ∧ (x_1 = 0 → k (-11) S_1))
def wX8_type (S : St) (x1 : Int) (x2 : Int) (k : Int → St → Prop) : Prop := wX8_type_0 S x1 x2 k
def wX8_above_0 (S : St) (x1 : Int) (x2 : Int) (k : Int → St → Prop) : Prop :=
  wX8_isType S x1 (fun x_1 S_1 => (¬ x_1 = 0 → wX8_t S_1 x1 (fun x_5 => (0 ≤ x_5 ∧ x_5 < 48) ∧ (wX8_in S_1 x2 0 (w32 ((S_1 20 x_5) - 1)) (fun x_9 => (x_9 = 0 → k (-13) S_1) ∧ (¬ x_9 = 0 → wX8_t S_1 x1 (fun x_14 => (0 ≤ w32 (w32 (24 * x_14) + x2) ∧ w32 (w32 (24 * x_14) + x2) < 1152) ∧ (k (S_1 21 (w32 (w32 (24 * x_14) + x2))) S_1))))))) ∧ (x_1 = 0 → k (-11) S_1))
def wX8_above (S : St) (x1 : Int) (x2 : Int) (k : Int → St → Prop) : Prop := wX8_above_0 S x1 x2 k
def wX8_under_0 (S : St) (x1 : Int) (x2 : Int) (k : Int → St → Prop) : Prop :=
  wX8_isType S x1 (fun x_1 S_1 => (x_1 = 0 → k (-11) S_1) ∧ (¬ x_1 = 0 → wX8_isType S_1 x2 (fun x_4 S_4 => (¬ x_4 = 0 → wX8_isUnder S_4 x1 x2 (fun x_6 => (x_6 = 0 → k 0 S_4) ∧ (¬ x_6 = 0 → k 1 S_4))) ∧ (x_4 = 0 → k (-11) S_4))))
def wX8_under (S : St) (x1 : Int) (x2 : Int) (k : Int → St → Prop) : Prop := wX8_under_0 S x1 x2 k
def wX8_member_0 (S : St) (x1 : Int) (x2 : Int) (k : Int → St → Prop) : Prop :=
  wX8_isMember S x1 (fun x_1 S_1 => (¬ x_1 = 0 → (¬ x2 = 0 → (¬ x2 = 1 → (¬ x2 = 2 → (¬ x2 = 3 → k (-12) S_1) ∧ (x2 = 3 → wX8_m S_1 x1 (fun x_12 => (0 ≤ x_12 ∧ x_12 < 240) ∧ (k (S_1 32 x_12) S_1)))) ∧ (x2 = 2 → wX8_m S_1 x1 (fun x_15 => (0 ≤ x_15 ∧ x_15 < 240) ∧ (k (S_1 31 x_15) S_1)))) ∧ (x2 = 1 → wX8_m S_1 x1 (fun x_18 => (0 ≤ x_18 ∧ x_18 < 240) ∧ (k (S_1 30 x_18) S_1)))) ∧ (x2 = 0 → wX8_m S_1 x1 (fun x_21 => (0 ≤ x_21 ∧ x_21 < 240) ∧ (k (S_1 28 x_21) S_1)))) ∧ (x_1 = 0 → k (-11) S_1))
def wX8_member (S : St) (x1 : Int) (x2 : Int) (k : Int → St → Prop) : Prop := wX8_member_0 S x1 x2 k
def wX8_seen_50 (S : St) (x1 : Int) (x2 : Int) (x3 : Int) (k : Int → St → Prop) : Prop :=
  wX8_m S x2 (fun x_2 => (0 ≤ x_2 ∧ x_2 < 240) ∧ (wX8_isUnder S x1 (S 28 x_2) (fun x_4 => (¬ x_4 = 0 → wX8_kindSeen S x1 x2 x3 (fun x_6 => k x_6 S)) ∧ (x_4 = 0 → k (-13) S))))
def wX8_seen_0 (S : St) (x1 : Int) (x2 : Int) (x3 : Int) (k : Int → St → Prop) : Prop :=
  wX8_isType S x1 (fun x_1 S_1 => (x_1 = 0 → k (-11) S_1) ∧ (¬ x_1 = 0 → wX8_isMember S_1 x2 (fun x_4 S_4 => (¬ x_4 = 0 → wX8_in S_4 x3 0 2 (fun x_8 => (¬ x_8 = 0 → (2 ≤ x3 → wX8_seen_50 S_4 x1 x2 x3 k) ∧ (x3 < 2 → wX8_m S_4 x2 (fun x_13 => (0 ≤ x_13 ∧ x_13 < 240) ∧ ((S_4 32 x_13 ≤ x3 → k (-13) S_4) ∧ (x3 < S_4 32 x_13 → wX8_seen_50 S_4 x1 x2 x3 k))))) ∧ (x_8 = 0 → k (-12) S_4))) ∧ (x_4 = 0 → k (-11) S_4))))
def wX8_seen (S : St) (x1 : Int) (x2 : Int) (x3 : Int) (k : Int → St → Prop) : Prop := wX8_seen_0 S x1 x2 x3 k
def wX8_erased_47 (S : St) (x1 : Int) (x2 : Int) (k : Int → St → Prop) : Prop :=
  wX8_kindErased S x1 x2 (fun x_1 => k x_1 S)
def wX8_erased_0 (S : St) (x1 : Int) (x2 : Int) (k : Int → St → Prop) : Prop :=
  wX8_isMember S x1 (fun x_1 S_1 => (¬ x_1 = 0 → wX8_in S_1 x2 0 2 (fun x_5 => (¬ x_5 = 0 → (2 ≤ x2 → wX8_erased_47 S_1 x1 x2 k) ∧ (x2 < 2 → wX8_m S_1 x1 (fun x_10 => (0 ≤ x_10 ∧ x_10 < 240) ∧ ((x2 < S_1 32 x_10 → wX8_erased_47 S_1 x1 x2 k) ∧ (S_1 32 x_10 ≤ x2 → k (-13) S_1))))) ∧ (x_5 = 0 → k (-12) S_1))) ∧ (x_1 = 0 → k (-11) S_1))
def wX8_erased (S : St) (x1 : Int) (x2 : Int) (k : Int → St → Prop) : Prop := wX8_erased_0 S x1 x2 k
def wX8_overrides_0 (S : St) (x1 : Int) (x2 : Int) (k : Int → St → Prop) : Prop :=
  wX8_isMember S x1 (fun x_1 S_1 => (x_1 = 0 → k (-11) S_1) ∧ (¬ x_1 = 0 → wX8_isMember S_1 x2 (fun x_4 S_4 => (¬ x_4 = 0 → wX8_isOver S_4 x1 x2 (fun x_6 => (x_6 = 0 → k 0 S_4) ∧ (¬ x_6 = 0 → k 1 S_4))) ∧ (x_4 = 0 → k (-11) S_4))))
def wX8_overrides (S : St) (x1 : Int) (x2 : Int) (k : Int → St → Prop) : Prop := wX8_overrides_0 S x1 x2 k
def wX8_bridge_0 (S : St) (x1 : Int) (x2 : Int) (x3 : Int) (k : Int → St → Prop) : Prop :=
  wX8_isType S x1 (fun x_1 S_1 => (¬ x_1 = 0 → wX8_in S_1 x3 0 4 (fun x_5 => (¬ x_5 = 0 → wX8_t S_1 x1 (fun x_9 => (0 ≤ x_9 ∧ x_9 < 48) ∧ (wX8_in S_1 x2 0 (w32 ((S_1 27 x_9) - 1)) (fun x_13 => (¬ x_13 = 0 → wX8_t S_1 x1 (fun x_19 => (0 ≤ x_19 ∧ x_19 < 48) ∧ (∀ x_23 : Int, x_23 = w32 (w32 (w32 (7200 * (S_1 0 10)) + S_1 26 x_19) + x2) → (0 ≤ x_23 ∧ x_23 < 14400) ∧ (∀ x_26 : Int, x_26 = S_1 36 x_23 → (2 ≤ x3 → (¬ x3 = 4 → wX8_m S_1 x_26 (fun x_34 => (0 ≤ x_34 ∧ x_34 < 240) ∧ ((S_1 32 x_34 ≤ w32 (x3 - 2) → k (-13) S_1) ∧ (w32 (x3 - 2) < S_1 32 x_34 → wX8_kindErased S_1 x_26 (w32 (x3 - 2)) (fun x_40 => k x_40 S_1))))) ∧ (x3 = 4 → wX8_kindErased S_1 x_26 2 (fun x_42 => k x_42 S_1))) ∧ (x3 < 2 → (¬ x3 = 0 → k x_26 S_1) ∧ (x3 = 0 → (0 ≤ x_23 ∧ x_23 < 14400) ∧ (k (S_1 35 x_23) S_1))))))) ∧ (x_13 = 0 → k (-13) S_1))))) ∧ (x_5 = 0 → k (-12) S_1))) ∧ (x_1 = 0 → k (-11) S_1))
def wX8_bridge (S : St) (x1 : Int) (x2 : Int) (x3 : Int) (k : Int → St → Prop) : Prop := wX8_bridge_0 S x1 x2 x3 k
def wX8_same_0 (S : St) (x1 : Int) (x2 : Int) (x3 : Int) (k : Int → St → Prop) : Prop :=
  wX8_isType S x1 (fun x_1 S_1 => (x_1 = 0 → k (-11) S_1) ∧ (¬ x_1 = 0 → wX8_isType S_1 x2 (fun x_4 S_4 => (¬ x_4 = 0 → (x3 = 0 → wX8_isSamePackage S_4 x1 x2 (fun x_7 => (x_7 = 0 → k 0 S_4) ∧ (¬ x_7 = 0 → k 1 S_4))) ∧ (¬ x3 = 0 → wX8_t S_4 x1 (fun x_12 => (0 ≤ x_12 ∧ x_12 < 48) ∧ (wX8_t S_4 x2 (fun x_15 => (0 ≤ x_15 ∧ x_15 < 48) ∧ ((¬ S_4 12 x_12 = S_4 12 x_15 → k 0 S_4) ∧ (S_4 12 x_12 = S_4 12 x_15 → k 1 S_4))))))) ∧ (x_4 = 0 → k (-11) S_4))))
def wX8_same (S : St) (x1 : Int) (x2 : Int) (x3 : Int) (k : Int → St → Prop) : Prop := wX8_same_0 S x1 x2 x3 k
def wX8_soughtBy_0 (S : St) (x1 : Int) (k : Int → Prop) : Prop :=
  (1000 ≤ x1 → (0 ≤ w32 ((w32 (w32 (7200 * (S 0 10)) + x1)) - 1000) ∧ w32 ((w32 (w32 (7200 * (S 0 10)) + x1)) - 1000) < 14400) ∧ (k (S 36 (w32 ((w32 (w32 (7200 * (S 0 10)) + x1)) - 1000))))) ∧ (x1 < 1000 → k x1)
def wX8_soughtBy (S : St) (x1 : Int) (k : Int → Prop) : Prop := wX8_soughtBy_0 S x1 k
def wX8_memberOf_0 (S : St) (x1 : Int) (k : Int → Prop) : Prop :=
  (1000 ≤ x1 → (0 ≤ w32 ((w32 (w32 (7200 * (S 0 10)) + x1)) - 1000) ∧ w32 ((w32 (w32 (7200 * (S 0 10)) + x1)) - 1000) < 14400) ∧ (k (S 35 (w32 ((w32 (w32 (7200 * (S 0 10)) + x1)) - 1000))))) ∧ (x1 < 1000 → k x1)
def wX8_memberOf (S : St) (x1 : Int) (k : Int → Prop) : Prop := wX8_memberOf_0 S x1 k
def wX8_shapeOf_0 (S : St) (x1 : Int) (k : Int → Prop) : Prop :=
  (1000 ≤ x1 → k 0) ∧ (x1 < 1000 → wX8_m S x1 (fun x_5 => (0 ≤ x_5 ∧ x_5 < 240) ∧ (k (S 31 x_5))))
def wX8_shapeOf (S : St) (x1 : Int) (k : Int → Prop) : Prop := wX8_shapeOf_0 S x1 k
def wX8_accessOf_0 (S : St) (x1 : Int) (k : Int → Prop) : Prop :=
  wX8_memberOf S x1 (fun x_2 => wX8_m S x_2 (fun x_3 => (0 ≤ x_3 ∧ x_3 < 240) ∧ (k (S 30 x_3))))
def wX8_accessOf (S : St) (x1 : Int) (k : Int → Prop) : Prop := wX8_accessOf_0 S x1 k
def wX8_ownerOf_0 (S : St) (x1 : Int) (k : Int → Prop) : Prop :=
  wX8_memberOf S x1 (fun x_2 => wX8_m S x_2 (fun x_3 => (0 ≤ x_3 ∧ x_3 < 240) ∧ (k (S 28 x_3))))
def wX8_ownerOf (S : St) (x1 : Int) (k : Int → Prop) : Prop := wX8_ownerOf_0 S x1 k
def wX8_isPlain_0 (S : St) (x1 : Int) (k : Int → Prop) : Prop :=
  wX8_shapeOf S x1 (fun x_1 => (x_1 = 1 → k 0) ∧ (¬ x_1 = 1 → wX8_accessOf S x1 (fun x_5 => (x_5 = 0 → k 0) ∧ (¬ x_5 = 0 → k 1))))
def wX8_isPlain (S : St) (x1 : Int) (k : Int → Prop) : Prop := wX8_isPlain_0 S x1 k
def wX8_toldAs_0 (S : St) (x1 : Int) (k : Int → Prop) : Prop :=
  (1000 ≤ x1 → wX8_memberOf S x1 (fun x_4 => k (w32 (1000 + x_4)))) ∧ (x1 < 1000 → k x1)
def wX8_toldAs (S : St) (x1 : Int) (k : Int → Prop) : Prop := wX8_toldAs_0 S x1 k
def wX8_methodIn_54_b (S : St) (x2 : Int) (x3 : Int) (x4 : Int) (P54 : Int → Prop) (k : Int → Prop) : Prop :=
  (0 ≤ x3 ∧ x3 < 48) ∧ ((S 27 x3 ≤ x4 → k (-1)) ∧ (x4 < S 27 x3 → (0 ≤ x3 ∧ x3 < 48) ∧ (∀ x_8 : Int, x_8 = w32 (S 26 x3 + x4) → (0 ≤ w32 (w32 (7200 * (S 0 10)) + x_8) ∧ w32 (w32 (7200 * (S 0 10)) + x_8) < 14400) ∧ (wX8_isSought S (S 36 (w32 (w32 (7200 * (S 0 10)) + x_8))) x2 (fun x_15 => (x_15 = 0 → ∀ x_17 : Int, x_17 = w32 (x4 + 1) → P54 x_17) ∧ (¬ x_15 = 0 → k (w32 (1000 + x_8))))))))
def wX8_methodIn_54 (S : St) (x2 : Int) (x3 : Int) (x4 : Int) (k : Int → Prop) : Prop :=
  wlp (fun (P : Int → Prop) (a : Int) => wX8_methodIn_54_b S x2 x3 a (fun b0 => P (b0)) k) (x4)
def wX8_methodIn_14_b (S : St) (x2 : Int) (x3 : Int) (x4 : Int) (P14 : Int → Prop) (k : Int → Prop) : Prop :=
  (0 ≤ x3 ∧ x3 < 48) ∧ ((0 ≤ x3 ∧ x3 < 48) ∧ ((w32 (S 24 x3 + S 25 x3) ≤ x4 → wX8_methodIn_54 S x2 x3 0 k) ∧ (x4 < w32 (S 24 x3 + S 25 x3) → wX8_isSought S x4 x2 (fun x_8 => (x_8 = 0 → ∀ x_10 : Int, x_10 = w32 (x4 + 1) → P14 x_10) ∧ (¬ x_8 = 0 → k x4)))))
def wX8_methodIn_14 (S : St) (x2 : Int) (x3 : Int) (x4 : Int) (k : Int → Prop) : Prop :=
  wlp (fun (P : Int → Prop) (a : Int) => wX8_methodIn_14_b S x2 x3 a (fun b0 => P (b0)) k) (x4)
def wX8_methodIn_0 (S : St) (x1 : Int) (x2 : Int) (k : Int → Prop) : Prop :=
  wX8_t S x1 (fun x_1 => (0 ≤ x_1 ∧ x_1 < 48) ∧ (∀ x_4 : Int, x_4 = S 24 x_1 → wX8_methodIn_14 S x2 x_1 x_4 k))
def wX8_methodIn (S : St) (x1 : Int) (x2 : Int) (k : Int → Prop) : Prop := wX8_methodIn_0 S x1 x2 k
def wX8_findSpecific_69 (S : St) (x1 : Int) (x2 : Int) (x3 : Int) (s0 : Int) (P12 : Int → St → Prop) (k : St → Prop) : Prop :=
  (s0 < 0 → ∀ x_2 : Int, x_2 = w32 (x3 + 1) → P12 x_2 S) ∧ (0 ≤ s0 → wX8_isPlain S s0 (fun x_3 => (x_3 = 0 → ∀ x_5 : Int, x_5 = w32 (x3 + 1) → P12 x_5 S) ∧ (¬ x_3 = 0 → (0 ≤ S 0 50 ∧ S 0 50 < 24) ∧ (∀ S_8 : St, S_8 = up S 37 (S 0 50) s0 → ∀ S_12 : St, S_12 = up S_8 0 50 (w32 (S_8 0 50 + 1)) → ∀ x_13 : Int, x_13 = w32 (x3 + 1) → P12 x_13 S_12))))
def wX8_findSpecific_176 (S : St) (x3 : Int) (x5 : Int) (P114 : Int → St → Prop) (P128 : Int → Int → Prop) (k : St → Prop) : Prop :=
  ∀ x_2 : Int, x_2 = w32 (x5 + 1) → P128 1 x_2
def wX8_findSpecific_128_b (S : St) (x3 : Int) (x4 : Int) (x5 : Int) (P114 : Int → St → Prop) (P128 : Int → Int → Prop) (k : St → Prop) : Prop :=
  (S 0 50 ≤ x5 → (x4 = 0 → ∀ x_4 : Int, x_4 = w32 (x3 + 1) → P114 x_4 S) ∧ (¬ x4 = 0 → (0 ≤ x3 ∧ x3 < 24) ∧ ((0 ≤ S 0 52 ∧ S 0 52 < 24) ∧ (∀ S_9 : St, S_9 = up S 38 (S 0 52) (S 37 x3) → ∀ S_13 : St, S_13 = up S_9 0 52 (w32 (S_9 0 52 + 1)) → ∀ x_14 : Int, x_14 = w32 (x3 + 1) → P114 x_14 S_13)))) ∧ (x5 < S 0 50 → (x4 = 0 → ∀ x_17 : Int, x_17 = w32 (x5 + 1) → P128 0 x_17) ∧ (¬ x4 = 0 → (x3 = x5 → wX8_findSpecific_176 S x3 x5 P114 P128 k) ∧ (¬ x3 = x5 → (0 ≤ x5 ∧ x5 < 24) ∧ (wX8_ownerOf S (S 37 x5) (fun x_21 => (0 ≤ x3 ∧ x3 < 24) ∧ (wX8_ownerOf S (S 37 x3) (fun x_24 => wX8_isUnder S x_21 x_24 (fun x_25 => (¬ x_25 = 0 → ∀ x_28 : Int, x_28 = w32 (x5 + 1) → P128 0 x_28) ∧ (x_25 = 0 → wX8_findSpecific_176 S x3 x5 P114 P128 k)))))))))
def wX8_findSpecific_128 (S : St) (x3 : Int) (x4 : Int) (x5 : Int) (P114 : Int → St → Prop) (k : St → Prop) : Prop :=
  wlp (fun (P : Int × Int → Prop) (a : Int × Int) => wX8_findSpecific_128_b S x3 a.1 a.2 P114 (fun b0 b1 => P (b0, b1)) k) (x4, x5)
def wX8_findSpecific_114_b (S : St) (x3 : Int) (P114 : Int → St → Prop) (k : St → Prop) : Prop :=
  (S 0 50 ≤ x3 → k S) ∧ (x3 < S 0 50 → wX8_findSpecific_128 S x3 1 0 P114 k)
def wX8_findSpecific_114 (S : St) (x3 : Int) (k : St → Prop) : Prop :=
  wlp (fun (P : Int × St → Prop) (a : Int × St) => wX8_findSpecific_114_b a.2 a.1 (fun b0 b1 => P (b0, b1)) k) (x3, S)
def wX8_findSpecific_12_b (S : St) (x1 : Int) (x2 : Int) (x3 : Int) (P12 : Int → St → Prop) (k : St → Prop) : Prop :=
  wX8_t S x1 (fun x_2 => (0 ≤ x_2 ∧ x_2 < 48) ∧ ((S 20 x_2 ≤ x3 → wX8_findSpecific_114 S 0 k) ∧ (x3 < S 20 x_2 → wX8_t S x1 (fun x_8 => (0 ≤ w32 (w32 (24 * x_8) + x3) ∧ w32 (w32 (24 * x_8) + x3) < 1152) ∧ (∀ x_12 : Int, x_12 = S 21 (w32 (w32 (24 * x_8) + x3)) → wX8_t S x_12 (fun x_14 => (0 ≤ x_14 ∧ x_14 < 48) ∧ ((¬ S 11 x_14 = 2 → wX8_findSpecific_69 S x1 x2 x3 (-1) P12 k) ∧ (S 11 x_14 = 2 → wX8_methodIn S x_12 x2 (fun x_19 => wX8_findSpecific_69 S x1 x2 x3 x_19 P12 k)))))))))
def wX8_findSpecific_12 (S : St) (x1 : Int) (x2 : Int) (x3 : Int) (k : St → Prop) : Prop :=
  wlp (fun (P : Int × St → Prop) (a : Int × St) => wX8_findSpecific_12_b a.2 x1 x2 a.1 (fun b0 b1 => P (b0, b1)) k) (x3, S)
def wX8_findSpecific_0 (S : St) (x1 : Int) (x2 : Int) (k : St → Prop) : Prop :=
  ∀ S_2 : St, S_2 = up S 0 50 0 → ∀ S_4 : St, S_4 = up S_2 0 52 0 → wX8_findSpecific_12 S_4 x1 x2 0 k
def wX8_findSpecific (S : St) (x1 : Int) (x2 : Int) (k : St → Prop) : Prop := wX8_findSpecific_0 S x1 x2 k
def wX8_countBodies_12_b (S : St) (x1 : Int) (P12 : Int → St → Prop) (k : St → Prop) : Prop :=
  (S 0 52 ≤ x1 → k S) ∧ (x1 < S 0 52 → (0 ≤ x1 ∧ x1 < 24) ∧ (wX8_shapeOf S (S 38 x1) (fun x_5 => (x_5 = 2 → ∀ x_8 : Int, x_8 = w32 (x1 + 1) → P12 x_8 S) ∧ (¬ x_5 = 2 → ∀ S_12 : St, S_12 = up S 0 53 (w32 (S 0 53 + 1)) → (0 ≤ x1 ∧ x1 < 24) ∧ (∀ S_15 : St, S_15 = up S_12 0 54 (S_12 38 x1) → ∀ x_16 : Int, x_16 = w32 (x1 + 1) → P12 x_16 S_15)))))
def wX8_countBodies_12 (S : St) (x1 : Int) (k : St → Prop) : Prop :=
  wlp (fun (P : Int × St → Prop) (a : Int × St) => wX8_countBodies_12_b a.2 a.1 (fun b0 b1 => P (b0, b1)) k) (x1, S)
def wX8_countBodies_0 (S : St) (k : St → Prop) : Prop :=
  ∀ S_2 : St, S_2 = up S 0 53 0 → ∀ S_4 : St, S_4 = up S_2 0 54 (-1) → wX8_countBodies_12 S_4 0 k
def wX8_countBodies (S : St) (k : St → Prop) : Prop := wX8_countBodies_0 S k
def wX8_lookedUp_2_b (S : St) (x1 : Int) (x2 : Int) (x3 : Int) (P2 : Int → Prop) (k : Int → St → Prop) : Prop :=
  (x3 = (-13) → wX8_findSpecific S x1 x2 (fun S_3 => wX8_countBodies S_3 (fun S_4 => (¬ S_4 0 50 = 0 → (¬ S_4 0 53 = 1 → k (S_4 37 0) S_4) ∧ (S_4 0 53 = 1 → k (S_4 0 54) S_4)) ∧ (S_4 0 50 = 0 → k (-1) S_4)))) ∧ (¬ x3 = (-13) → wX8_methodIn S x3 x2 (fun x_15 => (x_15 < 0 → wX8_t S x3 (fun x_18 => (0 ≤ x_18 ∧ x_18 < 48) ∧ (∀ x_20 : Int, x_20 = S 19 x_18 → P2 x_20))) ∧ (0 ≤ x_15 → k x_15 S)))
def wX8_lookedUp_2 (S : St) (x1 : Int) (x2 : Int) (x3 : Int) (k : Int → St → Prop) : Prop :=
  wlp (fun (P : Int → Prop) (a : Int) => wX8_lookedUp_2_b S x1 x2 a (fun b0 => P (b0)) k) (x3)
def wX8_lookedUp_0 (S : St) (x1 : Int) (x2 : Int) (k : Int → St → Prop) : Prop :=
  wX8_lookedUp_2 S x1 x2 x1 k
def wX8_lookedUp (S : St) (x1 : Int) (x2 : Int) (k : Int → St → Prop) : Prop := wX8_lookedUp_0 S x1 x2 k
def wX8_mayHave_114 (S : St) (x1 : Int) (x4 : Int) (k : Int → Prop) : Prop :=
  wX8_isUnder S x4 x1 (fun x_1 => (x_1 = 0 → k 0) ∧ (¬ x_1 = 0 → k 1))
def wX8_mayHave_0 (S : St) (x1 : Int) (x2 : Int) (x3 : Int) (x4 : Int) (k : Int → Prop) : Prop :=
  wX8_ownerOf S x3 (fun x_1 => wX8_accessOf S x3 (fun x_2 => (¬ x_2 = 3 → (¬ x_2 = 0 → wX8_isSamePackage S x1 x_1 (fun x_6 => (x_6 = 0 → (x_2 = 1 → k 0) ∧ (¬ x_2 = 1 → wX8_isUnder S x1 x_1 (fun x_11 => (¬ x_11 = 0 → wX8_shapeOf S x3 (fun x_13 => (x_13 = 1 → k 1) ∧ (¬ x_13 = 1 → wX8_isUnder S x2 x1 (fun x_17 => (¬ x_17 = 0 → wX8_mayHave_114 S x1 x4 k) ∧ (x_17 = 0 → wX8_isUnder S x1 x2 (fun x_19 => (x_19 = 0 → k 0) ∧ (¬ x_19 = 0 → wX8_mayHave_114 S x1 x4 k))))))) ∧ (x_11 = 0 → k 0)))) ∧ (¬ x_6 = 0 → k 1))) ∧ (x_2 = 0 → wX8_t S x1 (fun x_25 => (0 ≤ x_25 ∧ x_25 < 48) ∧ (wX8_t S x_1 (fun x_28 => (0 ≤ x_28 ∧ x_28 < 48) ∧ ((¬ S 12 x_25 = S 12 x_28 → k 0) ∧ (S 12 x_25 = S 12 x_28 → k 1))))))) ∧ (x_2 = 3 → k 1)))
def wX8_mayHave (S : St) (x1 : Int) (x2 : Int) (x3 : Int) (x4 : Int) (k : Int → Prop) : Prop := wX8_mayHave_0 S x1 x2 x3 x4 k
def wX8_findCan_133 (S : St) (x1 : Int) (x2 : Int) (x3 : Int) (x4 : Int) (P2 : Int → St → Prop) (P12 : Int → St → Prop) (k : St → Prop) : Prop :=
  (0 ≤ w32 (w32 (24 * x2) + x3) ∧ w32 (w32 (24 * x2) + x3) < 576) ∧ ((x4 = 0 ∨ x4 = 1) ∧ (∀ S_5 : St, S_5 = up S 40 (w32 (w32 (24 * x2) + x3)) x4 → ∀ x_6 : Int, x_6 = w32 (x2 + 1) → P12 x_6 S_5))
def wX8_findCan_79_b (S : St) (x1 : Int) (x2 : Int) (x3 : Int) (x4 : Int) (x5 : Int) (P2 : Int → St → Prop) (P12 : Int → St → Prop) (P79 : Int → Int → Prop) (k : St → Prop) : Prop :=
  (x3 ≤ x5 → wX8_findCan_133 S x1 x2 x3 x4 P2 P12 k) ∧ (x5 < x3 → (¬ x4 = 0 → wX8_findCan_133 S x1 x2 x3 x4 P2 P12 k) ∧ (x4 = 0 → (0 ≤ w32 (w32 (24 * x5) + x3) ∧ w32 (w32 (24 * x5) + x3) < 576) ∧ ((S 40 (w32 (w32 (24 * x5) + x3)) = 0 → ∀ x_10 : Int, x_10 = w32 (x5 + 1) → P79 0 x_10) ∧ (¬ S 40 (w32 (w32 (24 * x5) + x3)) = 0 → (0 ≤ w32 (w32 (24 * x2) + x5) ∧ w32 (w32 (24 * x2) + x5) < 576) ∧ ((S 40 (w32 (w32 (24 * x2) + x5)) = 0 → ∀ x_18 : Int, x_18 = w32 (x5 + 1) → P79 0 x_18) ∧ (¬ S 40 (w32 (w32 (24 * x2) + x5)) = 0 → ∀ x_20 : Int, x_20 = w32 (x5 + 1) → P79 1 x_20))))))
def wX8_findCan_79 (S : St) (x1 : Int) (x2 : Int) (x3 : Int) (x4 : Int) (x5 : Int) (P2 : Int → St → Prop) (P12 : Int → St → Prop) (k : St → Prop) : Prop :=
  wlp (fun (P : Int × Int → Prop) (a : Int × Int) => wX8_findCan_79_b S x1 x2 x3 a.1 a.2 P2 P12 (fun b0 b1 => P (b0, b1)) k) (x4, x5)
def wX8_findCan_72 (S : St) (x1 : Int) (x2 : Int) (x3 : Int) (s0 : Int) (P2 : Int → St → Prop) (P12 : Int → St → Prop) (k : St → Prop) : Prop :=
  ∀ x_3 : Int, x_3 = w32 (x2 + 1) → wX8_findCan_79 S x1 x2 x3 s0 x_3 P2 P12 k
def wX8_findCan_67 (S : St) (x1 : Int) (x2 : Int) (x3 : Int) (P2 : Int → St → Prop) (P12 : Int → St → Prop) (k : St → Prop) : Prop :=
  wX8_findCan_72 S x1 x2 x3 1 P2 P12 k
def wX8_findCan_12_b (S : St) (x1 : Int) (x2 : Int) (P2 : Int → St → Prop) (P12 : Int → St → Prop) (k : St → Prop) : Prop :=
  (S 0 56 ≤ w32 (x2 + x1) → ∀ x_4 : Int, x_4 = w32 (x1 + 1) → P2 x_4 S) ∧ (w32 (x2 + x1) < S 0 56 → ∀ x_6 : Int, x_6 = w32 (x2 + x1) → (0 ≤ x_6 ∧ x_6 < 24) ∧ (wX8_accessOf S (S 39 x_6) (fun x_9 => (1 < x_9 → wX8_findCan_67 S x1 x2 x_6 P2 P12 k) ∧ (x_9 ≤ 1 → (0 ≤ x2 ∧ x2 < 24) ∧ (wX8_ownerOf S (S 39 x2) (fun x_14 => (0 ≤ x_6 ∧ x_6 < 24) ∧ (wX8_ownerOf S (S 39 x_6) (fun x_17 => wX8_isSamePackage S x_14 x_17 (fun x_18 => (x_18 = 0 → wX8_findCan_72 S x1 x2 x_6 0 P2 P12 k) ∧ (¬ x_18 = 0 → wX8_findCan_67 S x1 x2 x_6 P2 P12 k))))))))))
def wX8_findCan_12 (S : St) (x1 : Int) (x2 : Int) (P2 : Int → St → Prop) (k : St → Prop) : Prop :=
  wlp (fun (P : Int × St → Prop) (a : Int × St) => wX8_findCan_12_b a.2 x1 a.1 P2 (fun b0 b1 => P (b0, b1)) k) (x2, S)
def wX8_findCan_2_b (S : St) (x1 : Int) (P2 : Int → St → Prop) (k : St → Prop) : Prop :=
  (S 0 56 ≤ x1 → k S) ∧ (x1 < S 0 56 → wX8_findCan_12 S x1 0 P2 k)
def wX8_findCan_2 (S : St) (x1 : Int) (k : St → Prop) : Prop :=
  wlp (fun (P : Int × St → Prop) (a : Int × St) => wX8_findCan_2_b a.2 a.1 (fun b0 b1 => P (b0, b1)) k) (x1, S)
def wX8_findCan_0 (S : St) (k : St → Prop) : Prop :=
  wX8_findCan_2 S 1 k
def wX8_findCan (S : St) (k : St → Prop) : Prop := wX8_findCan_0 S k
def wX8_runs_0 (S : St) (x1 : Int) (k : Int → Prop) : Prop :=
  wX8_shapeOf S x1 (fun x_1 => (¬ x_1 = 2 → k x1) ∧ (x_1 = 2 → k (-4)))
def wX8_runs (S : St) (x1 : Int) (k : Int → Prop) : Prop := wX8_runs_0 S x1 k
def wX8_selected_118 (S : St) (x1 : Int) (x2 : Int) (x3 : Int) (x4 : Int) (x5 : Int) (P45 : Int → Int → St → Prop) (k : Int → St → Prop) : Prop :=
  wX8_t S x5 (fun x_2 => (0 ≤ x_2 ∧ x_2 < 48) ∧ (∀ x_4 : Int, x_4 = S 19 x_2 → P45 x4 x_4 S))
def wX8_selected_116 (S : St) (x1 : Int) (x2 : Int) (x3 : Int) (x5 : Int) (s0 : Int) (P45 : Int → Int → St → Prop) (k : Int → St → Prop) : Prop :=
  wX8_selected_118 S x1 x2 x3 s0 x5 P45 k
def wX8_selected_217 (S : St) (x5 : Int) (k : Int → St → Prop) : Prop :=
  (0 ≤ x5 ∧ x5 < 24) ∧ (wX8_runs S (S 39 x5) (fun x_3 => k x_3 S))
def wX8_selected_192 (S : St) (x1 : Int) (x2 : Int) (x4 : Int) (x5 : Int) (P167 : Int → Prop) (k : Int → St → Prop) : Prop :=
  (x4 = 0 → ∀ x_2 : Int, x_2 = w32 (x5 + 1) → P167 x_2) ∧ (¬ x4 = 0 → (0 ≤ w32 ((w32 (w32 (24 * x5) + S 0 56)) - 1) ∧ w32 ((w32 (w32 (24 * x5) + S 0 56)) - 1) < 576) ∧ ((S 40 (w32 ((w32 (w32 (24 * x5) + S 0 56)) - 1)) = 0 → ∀ x_12 : Int, x_12 = w32 (x5 + 1) → P167 x_12) ∧ (¬ S 40 (w32 ((w32 (w32 (24 * x5) + S 0 56)) - 1)) = 0 → wX8_selected_217 S x5 k)))
def wX8_selected_235 (S : St) (x1 : Int) (x2 : Int) (k : Int → St → Prop) : Prop :=
  wX8_soughtBy S x1 (fun x_1 => wX8_findSpecific S x2 x_1 (fun S_2 => wX8_countBodies S_2 (fun S_3 => (¬ S_3 0 53 = 1 → (¬ S_3 0 53 = 0 → k (-3) S_3) ∧ (S_3 0 53 = 0 → k (-4) S_3)) ∧ (S_3 0 53 = 1 → k (S_3 0 54) S_3))))
def wX8_selected_167_b (S : St) (x1 : Int) (x2 : Int) (x4 : Int) (x5 : Int) (P167 : Int → Prop) (k : Int → St → Prop) : Prop :=
  (S 0 56 ≤ x5 → wX8_selected_235 S x1 x2 k) ∧ (x5 < S 0 56 → (¬ x5 = w32 ((S 0 56) - 1) → wX8_selected_192 S x1 x2 x4 x5 P167 k) ∧ (x5 = w32 ((S 0 56) - 1) → (¬ x4 = 0 → wX8_selected_217 S x5 k) ∧ (x4 = 0 → wX8_selected_192 S x1 x2 x4 x5 P167 k)))
def wX8_selected_167 (S : St) (x1 : Int) (x2 : Int) (x4 : Int) (x5 : Int) (k : Int → St → Prop) : Prop :=
  wlp (fun (P : Int → Prop) (a : Int) => wX8_selected_167_b S x1 x2 x4 a (fun b0 => P (b0)) k) (x5)
def wX8_selected_156 (S : St) (x1 : Int) (x2 : Int) (x3 : Int) (x4 : Int) (k : Int → St → Prop) : Prop :=
  (¬ x3 = 0 → wX8_selected_235 S x1 x2 k) ∧ (x3 = 0 → wX8_findCan S (fun S_2 => wX8_selected_167 S_2 x1 x2 x4 0 k))
def wX8_selected_134 (S : St) (x1 : Int) (x2 : Int) (x3 : Int) (x4 : Int) (k : Int → St → Prop) : Prop :=
  (x3 = 0 → wX8_selected_156 S x1 x2 x3 x4 k) ∧ (¬ x3 = 0 → (S 0 56 ≤ 0 → wX8_selected_156 S x1 x2 x3 x4 k) ∧ (0 < S 0 56 → wX8_runs S (S 39 0) (fun x_7 => k x_7 S)))
def wX8_selected_45_b (S : St) (x1 : Int) (x2 : Int) (x3 : Int) (x4 : Int) (x5 : Int) (P45 : Int → Int → St → Prop) (k : Int → St → Prop) : Prop :=
  (x5 = (-13) → wX8_selected_134 S x1 x2 x3 x4 k) ∧ (¬ x5 = (-13) → (¬ x4 = 0 → wX8_selected_134 S x1 x2 x3 x4 k) ∧ (x4 = 0 → wX8_soughtBy S x1 (fun x_4 => wX8_methodIn S x5 x_4 (fun x_5 => (x_5 < 0 → wX8_selected_118 S x1 x2 x3 x4 x5 P45 k) ∧ (0 ≤ x_5 → wX8_isPlain S x_5 (fun x_7 => (x_7 = 0 → wX8_selected_118 S x1 x2 x3 x4 x5 P45 k) ∧ (¬ x_7 = 0 → (0 ≤ S 0 56 ∧ S 0 56 < 24) ∧ (∀ S_11 : St, S_11 = up S 39 (S 0 56) x_5 → ∀ S_15 : St, S_15 = up S_11 0 56 (w32 (S_11 0 56 + 1)) → (¬ x_5 = x1 → wX8_selected_116 S_15 x1 x2 x3 x5 0 P45 k) ∧ (x_5 = x1 → wX8_selected_116 S_15 x1 x2 x3 x5 1 P45 k)))))))))
def wX8_selected_45 (S : St) (x1 : Int) (x2 : Int) (x3 : Int) (x4 : Int) (x5 : Int) (k : Int → St → Prop) : Prop :=
  wlp (fun (P : Int × Int × St → Prop) (a : Int × Int × St) => wX8_selected_45_b a.2.2 x1 x2 x3 a.1 a.2.1 (fun b0 b1 b2 => P (b0, b1, b2)) k) (x4, x5, S)
def wX8_selected_33 (S : St) (x1 : Int) (x2 : Int) (s0 : Int) (k : Int → St → Prop) : Prop :=
  ∀ S_2 : St, S_2 = up S 0 56 0 → wX8_selected_45 S_2 x1 x2 s0 0 x2 k
def wX8_selected_0 (S : St) (x1 : Int) (x2 : Int) (k : Int → St → Prop) : Prop :=
  wX8_accessOf S x1 (fun x_1 => (¬ x_1 = 0 → wX8_ownerOf S x1 (fun x_4 => wX8_t S x_4 (fun x_5 => (0 ≤ x_5 ∧ x_5 < 48) ∧ ((¬ S 11 x_5 = 2 → wX8_selected_33 S x1 x2 0 k) ∧ (S 11 x_5 = 2 → wX8_selected_33 S x1 x2 1 k))))) ∧ (x_1 = 0 → k x1 S))
def wX8_selected (S : St) (x1 : Int) (x2 : Int) (k : Int → St → Prop) : Prop := wX8_selected_0 S x1 x2 k
def wX8_runOf_20_b (S : St) (x2 : Int) (x4 : Int) (P20 : Int → St → Prop) (k : Int → St → Prop) : Prop :=
  (x4 < 1000 → k x4 S) ∧ (1000 ≤ x4 → (¬ S 0 58 = 8 → ∀ S_9 : St, S_9 = up S 0 58 (w32 (S 0 58 + 1)) → wX8_memberOf S_9 x4 (fun x_10 => wX8_selected S_9 x_10 x2 (fun x_11 S_11 => P20 x_11 S_11))) ∧ (S 0 58 = 8 → k (-7) S))
def wX8_runOf_20 (S : St) (x2 : Int) (x4 : Int) (k : Int → St → Prop) : Prop :=
  wlp (fun (P : Int × St → Prop) (a : Int × St) => wX8_runOf_20_b a.2 x2 a.1 (fun b0 b1 => P (b0, b1)) k) (x4, S)
def wX8_runOf_0 (S : St) (x1 : Int) (x2 : Int) (x3 : Int) (k : Int → St → Prop) : Prop :=
  (x3 = 0 → wX8_runs S x1 (fun x_2 => wX8_runOf_20 S x2 x_2 k)) ∧ (¬ x3 = 0 → wX8_selected S x1 x2 (fun x_3 S_3 => wX8_runOf_20 S_3 x2 x_3 k))
def wX8_runOf (S : St) (x1 : Int) (x2 : Int) (x3 : Int) (k : Int → St → Prop) : Prop := wX8_runOf_0 S x1 x2 x3 k
def wX8_isRef_43 (S : St) (x1 : Int) (x2 : Int) (x4 : Int) (P5 : Int → Int → Prop) (k : Int → Prop) : Prop :=
  ∀ x_2 : Int, x_2 = w32 (x4 + 1) → P5 1 x_2
def wX8_isRef_5_b (S : St) (x1 : Int) (x2 : Int) (x3 : Int) (x4 : Int) (P5 : Int → Int → Prop) (k : Int → Prop) : Prop :=
  wX8_t S x1 (fun x_2 => (0 ≤ x_2 ∧ x_2 < 48) ∧ ((S 16 x_2 ≤ x4 → (x3 = 0 ∨ x3 = 1) ∧ k x3) ∧ (x4 < S 16 x_2 → (¬ x3 = 0 → wX8_isRef_43 S x1 x2 x4 P5 k) ∧ (x3 = 0 → wX8_t S x1 (fun x_8 => (0 ≤ w32 (w32 (5 * x_8) + x4) ∧ w32 (w32 (5 * x_8) + x4) < 240) ∧ ((¬ S 17 (w32 (w32 (5 * x_8) + x4)) = x2 → ∀ x_14 : Int, x_14 = w32 (x4 + 1) → P5 0 x_14) ∧ (S 17 (w32 (w32 (5 * x_8) + x4)) = x2 → wX8_isRef_43 S x1 x2 x4 P5 k)))))))
def wX8_isRef_5 (S : St) (x1 : Int) (x2 : Int) (x3 : Int) (x4 : Int) (k : Int → Prop) : Prop :=
  wlp (fun (P : Int × Int → Prop) (a : Int × Int) => wX8_isRef_5_b S x1 x2 a.1 a.2 (fun b0 b1 => P (b0, b1)) k) (x3, x4)
def wX8_isRef_0 (S : St) (x1 : Int) (x2 : Int) (k : Int → Prop) : Prop :=
  wX8_isRef_5 S x1 x2 0 0 k
def wX8_isRef (S : St) (x1 : Int) (x2 : Int) (k : Int → Prop) : Prop := wX8_isRef_0 S x1 x2 k
def wX8_ruled_280 (S : St) (s1 : Int) (s2 : Int) (s3 : Int) (k : Int → St → Prop) : Prop :=
  wX8_runOf S s1 s2 s3 (fun x_1 S_1 => k x_1 S_1)
def wX8_ruled_265 (S : St) (x1 : Int) (x5 : Int) (x8 : Int) (k : Int → St → Prop) : Prop :=
  (2 ≤ x1 → wX8_ruled_280 S x8 x5 0 k) ∧ (x1 < 2 → wX8_ruled_280 S x8 x5 1 k)
def wX8_ruled_241 (S : St) (x1 : Int) (x5 : Int) (x8 : Int) (s0 : Int) (k : Int → St → Prop) : Prop :=
  wX8_t S x5 (fun x_2 => (0 ≤ x_2 ∧ x_2 < 48) ∧ ((¬ S 11 x_2 = 0 → k (-6) S) ∧ (S 11 x_2 = 0 → (¬ s0 = 0 → wX8_ruled_265 S x1 x5 x8 k) ∧ (s0 = 0 → k (-6) S))))
def wX8_ruled_230 (S : St) (x1 : Int) (x5 : Int) (x8 : Int) (k : Int → St → Prop) : Prop :=
  wX8_ruled_241 S x1 x5 x8 0 k
def wX8_ruled_186 (S : St) (x1 : Int) (x2 : Int) (x3 : Int) (x5 : Int) (x8 : Int) (s0 : Int) (s1 : Int) (k : Int → St → Prop) : Prop :=
  (s0 = s1 → (x1 = 3 → wX8_ruled_265 S x1 x5 x8 k) ∧ (¬ x1 = 3 → (¬ x1 = 2 → wX8_isUnder S x5 x3 (fun x_6 => wX8_ruled_241 S x1 x5 x8 x_6 k)) ∧ (x1 = 2 → wX8_isUnder S x5 x2 (fun x_7 => (x_7 = 0 → wX8_ruled_230 S x1 x5 x8 k) ∧ (¬ x_7 = 0 → (x2 = x3 → wX8_ruled_230 S x1 x5 x8 k) ∧ (¬ x2 = x3 → wX8_isUnder S x2 x3 (fun x_10 => (x_10 = 0 → wX8_ruled_230 S x1 x5 x8 k) ∧ (¬ x_10 = 0 → wX8_ruled_241 S x1 x5 x8 1 k)))))))) ∧ (¬ s0 = s1 → k (-5) S)
def wX8_ruled_176 (S : St) (x1 : Int) (x2 : Int) (x3 : Int) (x5 : Int) (x8 : Int) (s0 : Int) (k : Int → St → Prop) : Prop :=
  (¬ x1 = 3 → wX8_ruled_186 S x1 x2 x3 x5 x8 s0 0 k) ∧ (x1 = 3 → wX8_ruled_186 S x1 x2 x3 x5 x8 s0 1 k)
def wX8_ruled_152 (S : St) (x1 : Int) (x2 : Int) (x3 : Int) (x5 : Int) (x8 : Int) (s1 : Int) (s2 : Int) (s3 : Int) (s4 : Int) (k : Int → St → Prop) : Prop :=
  wX8_mayHave S s1 s2 s3 s4 (fun x_1 => (¬ x_1 = 0 → wX8_shapeOf S x8 (fun x_3 => (¬ x_3 = 1 → wX8_ruled_176 S x1 x2 x3 x5 x8 0 k) ∧ (x_3 = 1 → wX8_ruled_176 S x1 x2 x3 x5 x8 1 k))) ∧ (x_1 = 0 → k (-2) S))
def wX8_ruled_122 (S : St) (x1 : Int) (x2 : Int) (x3 : Int) (x4 : Int) (x5 : Int) (s1 : Int) (k : Int → St → Prop) : Prop :=
  wX8_lookedUp S s1 x4 (fun x_1 S_1 => (0 ≤ x_1 → (¬ x1 = 3 → wX8_ruled_152 S_1 x1 x2 x3 x5 x_1 x2 x3 x_1 x5 k) ∧ (x1 = 3 → wX8_ruled_152 S_1 x1 x2 x3 x5 x_1 x2 x3 x_1 x2 k)) ∧ (x_1 < 0 → k (-1) S_1))
def wX8_ruled_100 (S : St) (x1 : Int) (x2 : Int) (x3 : Int) (x4 : Int) (x5 : Int) (s0 : Int) (k : Int → St → Prop) : Prop :=
  (s0 = 0 → wX8_ruled_122 S x1 x2 x3 x4 x5 x3 k) ∧ (¬ s0 = 0 → wX8_t S x2 (fun x_3 => (0 ≤ x_3 ∧ x_3 < 48) ∧ (wX8_ruled_122 S x1 x2 x3 x4 x5 (S 19 x_3) k)))
def wX8_ruled_99 (S : St) (x1 : Int) (x2 : Int) (x3 : Int) (x4 : Int) (x5 : Int) (k : Int → St → Prop) : Prop :=
  wX8_ruled_100 S x1 x2 x3 x4 x5 0 k
def wX8_ruled_67 (S : St) (x1 : Int) (x2 : Int) (x3 : Int) (x4 : Int) (x5 : Int) (x6 : Int) (k : Int → St → Prop) : Prop :=
  (¬ x1 = 2 → wX8_ruled_99 S x1 x2 x3 x4 x5 k) ∧ (x1 = 2 → (¬ x6 = 0 → wX8_ruled_99 S x1 x2 x3 x4 x5 k) ∧ (x6 = 0 → wX8_t S x2 (fun x_6 => (0 ≤ w32 (w32 (24 * x_6) + x3) ∧ w32 (w32 (24 * x_6) + x3) < 1152) ∧ ((S 22 (w32 (w32 (24 * x_6) + x3)) = 0 → wX8_ruled_99 S x1 x2 x3 x4 x5 k) ∧ (¬ S 22 (w32 (w32 (24 * x_6) + x3)) = 0 → wX8_ruled_100 S x1 x2 x3 x4 x5 1 k)))))
def wX8_ruled_45 (S : St) (x1 : Int) (x2 : Int) (x3 : Int) (x4 : Int) (x5 : Int) (x6 : Int) (k : Int → St → Prop) : Prop :=
  (¬ x1 = 2 → wX8_ruled_67 S x1 x2 x3 x4 x5 x6 k) ∧ (x1 = 2 → (x6 = 0 → wX8_ruled_67 S x1 x2 x3 x4 x5 x6 k) ∧ (¬ x6 = 0 → wX8_isRef S x2 x3 (fun x_4 => (¬ x_4 = 0 → wX8_ruled_67 S x1 x2 x3 x4 x5 x6 k) ∧ (x_4 = 0 → k (-5) S))))
def wX8_ruled_35 (S : St) (x1 : Int) (x2 : Int) (x3 : Int) (x4 : Int) (x5 : Int) (x6 : Int) (k : Int → St → Prop) : Prop :=
  (¬ x1 = 1 → wX8_ruled_45 S x1 x2 x3 x4 x5 x6 k) ∧ (x1 = 1 → (x6 = 0 → k (-5) S) ∧ (¬ x6 = 0 → wX8_ruled_45 S x1 x2 x3 x4 x5 x6 k))
def wX8_ruled_24 (S : St) (x1 : Int) (x2 : Int) (x3 : Int) (x4 : Int) (x5 : Int) (s0 : Int) (k : Int → St → Prop) : Prop :=
  (¬ x1 = 0 → wX8_ruled_35 S x1 x2 x3 x4 x5 s0 k) ∧ (x1 = 0 → (¬ s0 = 0 → k (-5) S) ∧ (s0 = 0 → wX8_ruled_35 S x1 x2 x3 x4 x5 s0 k))
def wX8_ruled_0 (S : St) (x1 : Int) (x2 : Int) (x3 : Int) (x4 : Int) (x5 : Int) (k : Int → St → Prop) : Prop :=
  ∀ S_2 : St, S_2 = up S 0 58 0 → wX8_t S_2 x3 (fun x_4 => (0 ≤ x_4 ∧ x_4 < 48) ∧ ((¬ S_2 11 x_4 = 2 → wX8_ruled_24 S_2 x1 x2 x3 x4 x5 0 k) ∧ (S_2 11 x_4 = 2 → wX8_ruled_24 S_2 x1 x2 x3 x4 x5 1 k)))
def wX8_ruled (S : St) (x1 : Int) (x2 : Int) (x3 : Int) (x4 : Int) (x5 : Int) (k : Int → St → Prop) : Prop := wX8_ruled_0 S x1 x2 x3 x4 x5 k
def wX8_lookup_0 (S : St) (x1 : Int) (x2 : Int) (k : Int → St → Prop) : Prop :=
  wX8_isType S x1 (fun x_1 S_1 => (x_1 = 0 → k (-11) S_1) ∧ (¬ x_1 = 0 → wX8_isMember S_1 x2 (fun x_4 S_4 => (¬ x_4 = 0 → wX8_lookedUp S_4 x1 x2 (fun x_6 S_6 => (0 ≤ x_6 → wX8_toldAs S_6 x_6 (fun x_8 => k x_8 S_6)) ∧ (x_6 < 0 → k (-1) S_6))) ∧ (x_4 = 0 → k (-11) S_4))))
def wX8_lookup (S : St) (x1 : Int) (x2 : Int) (k : Int → St → Prop) : Prop := wX8_lookup_0 S x1 x2 k
def wX8_specific_43 (S : St) (x1 : Int) (x2 : Int) (x3 : Int) (s0 : Int) (k : Int → St → Prop) : Prop :=
  (s0 < 0 → wX8_findSpecific S x1 x2 (fun S_2 => wX8_in S_2 x3 0 (w32 ((S_2 0 52) - 1)) (fun x_7 => (x_7 = 0 → k (-13) S_2) ∧ (¬ x_7 = 0 → (0 ≤ x3 ∧ x3 < 24) ∧ (wX8_toldAs S_2 (S_2 38 x3) (fun x_12 => k x_12 S_2)))))) ∧ (0 ≤ s0 → (¬ x3 = 0 → k (-13) S) ∧ (x3 = 0 → wX8_toldAs S s0 (fun x_15 => k x_15 S)))
def wX8_specific_0 (S : St) (x1 : Int) (x2 : Int) (x3 : Int) (k : Int → St → Prop) : Prop :=
  wX8_isType S x1 (fun x_1 S_1 => (x_1 = 0 → k (-11) S_1) ∧ (¬ x_1 = 0 → wX8_isMember S_1 x2 (fun x_4 S_4 => (¬ x_4 = 0 → wX8_t S_4 x1 (fun x_7 => (0 ≤ x_7 ∧ x_7 < 48) ∧ ((¬ S_4 11 x_7 = 2 → wX8_specific_43 S_4 x1 x2 x3 (-1) k) ∧ (S_4 11 x_7 = 2 → wX8_methodIn S_4 x1 x2 (fun x_12 => wX8_specific_43 S_4 x1 x2 x3 x_12 k))))) ∧ (x_4 = 0 → k (-11) S_4))))
def wX8_specific (S : St) (x1 : Int) (x2 : Int) (x3 : Int) (k : Int → St → Prop) : Prop := wX8_specific_0 S x1 x2 x3 k
def wX8_may_0 (S : St) (x1 : Int) (x2 : Int) (x3 : Int) (x4 : Int) (k : Int → St → Prop) : Prop :=
  wX8_isType S x1 (fun x_1 S_1 => (x_1 = 0 → k (-11) S_1) ∧ (¬ x_1 = 0 → wX8_isType S_1 x2 (fun x_4 S_4 => (x_4 = 0 → k (-11) S_4) ∧ (¬ x_4 = 0 → wX8_isMember S_4 x3 (fun x_7 S_7 => (x_7 = 0 → k (-11) S_7) ∧ (¬ x_7 = 0 → wX8_isType S_7 x4 (fun x_10 S_10 => (¬ x_10 = 0 → wX8_lookedUp S_10 x2 x3 (fun x_12 S_12 => (0 ≤ x_12 → wX8_mayHave S_12 x1 x2 x_12 x4 (fun x_14 => (x_14 = 0 → k 0 S_12) ∧ (¬ x_14 = 0 → k 1 S_12))) ∧ (x_12 < 0 → k (-1) S_12))) ∧ (x_10 = 0 → k (-11) S_10))))))))
def wX8_may (S : St) (x1 : Int) (x2 : Int) (x3 : Int) (x4 : Int) (k : Int → St → Prop) : Prop := wX8_may_0 S x1 x2 x3 x4 k
def wX8_rule_42 (S : St) (x1 : Int) (x2 : Int) (x3 : Int) (x4 : Int) (x5 : Int) (k : Int → St → Prop) : Prop :=
  wX8_in S x1 0 3 (fun x_3 => (¬ x_3 = 0 → wX8_ruled S x1 x2 x3 x4 x5 (fun x_5 S_5 => ∀ S_7 : St, S_7 = up S_5 0 59 (S_5 0 58) → k x_5 S_7)) ∧ (x_3 = 0 → k (-12) S))
def wX8_rule_0 (S : St) (x1 : Int) (x2 : Int) (x3 : Int) (x4 : Int) (x5 : Int) (k : Int → St → Prop) : Prop :=
  wX8_isType S x2 (fun x_1 S_1 => (x_1 = 0 → k (-11) S_1) ∧ (¬ x_1 = 0 → wX8_isType S_1 x3 (fun x_4 S_4 => (x_4 = 0 → k (-11) S_4) ∧ (¬ x_4 = 0 → wX8_isMember S_4 x4 (fun x_7 S_7 => (x_7 = 0 → k (-11) S_7) ∧ (¬ x_7 = 0 → (x1 = 3 → wX8_rule_42 S_7 x1 x2 x3 x4 x5 k) ∧ (¬ x1 = 3 → wX8_isType S_7 x5 (fun x_12 S_12 => (¬ x_12 = 0 → wX8_rule_42 S_12 x1 x2 x3 x4 x5 k) ∧ (x_12 = 0 → k (-11) S_12)))))))))
def wX8_rule (S : St) (x1 : Int) (x2 : Int) (x3 : Int) (x4 : Int) (x5 : Int) (k : Int → St → Prop) : Prop := wX8_rule_0 S x1 x2 x3 x4 x5 k
def wX8_hops_0 (S : St) (k : Int → Prop) : Prop :=
  k (S 0 59)
def wX8_hops (S : St) (k : Int → Prop) : Prop := wX8_hops_0 S k
def wX8_outcomes_120 (S : St) (x1 : Int) (x2 : Int) (x3 : Int) (x5 : Int) (s0 : Int) (P6 : Int → Int → St → Prop) (k : Int → St → Prop) : Prop :=
  ∀ x_3 : Int, x_3 = w32 (s0 + 1) → ∀ x_4 : Int, x_4 = w32 (x5 + 1) → P6 x_3 x_4 S
def wX8_outcomes_124 (S : St) (x1 : Int) (x2 : Int) (x3 : Int) (x5 : Int) (s0 : Int) (P6 : Int → Int → St → Prop) (k : Int → St → Prop) : Prop :=
  ∀ x_3 : Int, x_3 = w32 (s0 + 0) → ∀ x_4 : Int, x_4 = w32 (x5 + 1) → P6 x_3 x_4 S
def wX8_outcomes_86 (S : St) (x1 : Int) (x2 : Int) (x3 : Int) (x4 : Int) (x5 : Int) (x6 : Int) (s0 : Int) (P6 : Int → Int → St → Prop) (k : Int → St → Prop) : Prop :=
  wX8_ruled S s0 x6 x6 x5 x1 (fun x_1 S_1 => (x_1 = x2 → wX8_outcomes_120 S_1 x1 x2 x3 x5 x4 P6 k) ∧ (¬ x_1 = x2 → (¬ x2 = 0 → wX8_outcomes_124 S_1 x1 x2 x3 x5 x4 P6 k) ∧ (x2 = 0 → (x_1 < 0 → wX8_outcomes_124 S_1 x1 x2 x3 x5 x4 P6 k) ∧ (0 ≤ x_1 → wX8_outcomes_120 S_1 x1 x2 x3 x5 x4 P6 k))))
def wX8_outcomes_66 (S : St) (x1 : Int) (x2 : Int) (x3 : Int) (x4 : Int) (x5 : Int) (x6 : Int) (P6 : Int → Int → St → Prop) (k : Int → St → Prop) : Prop :=
  wX8_t S x6 (fun x_2 => (0 ≤ x_2 ∧ x_2 < 48) ∧ ((¬ S 11 x_2 = 2 → wX8_outcomes_86 S x1 x2 x3 x4 x5 x6 0 P6 k) ∧ (S 11 x_2 = 2 → wX8_outcomes_86 S x1 x2 x3 x4 x5 x6 1 P6 k)))
def wX8_outcomes_6_b (S : St) (x1 : Int) (x2 : Int) (x3 : Int) (x4 : Int) (x5 : Int) (P6 : Int → Int → St → Prop) (k : Int → St → Prop) : Prop :=
  (0 ≤ S 0 10 ∧ S 0 10 < 2) ∧ ((S 4 (S 0 10) ≤ x5 → k x4 S) ∧ (x5 < S 4 (S 0 10) → wX8_m S x5 (fun x_6 => (0 ≤ x_6 ∧ x_6 < 240) ∧ (∀ x_8 : Int, x_8 = S 28 x_6 → wX8_isUnder S x1 x_8 (fun x_9 => (x_9 = 0 → ∀ x_11 : Int, x_11 = w32 (x5 + 1) → P6 x4 x_11 S) ∧ (¬ x_9 = 0 → (x3 = 0 → wX8_outcomes_66 S x1 x2 x3 x4 x5 x_8 P6 k) ∧ (¬ x3 = 0 → wX8_m S x5 (fun x_14 => (0 ≤ x_14 ∧ x_14 < 240) ∧ ((¬ S 31 x_14 = 1 → wX8_outcomes_66 S x1 x2 x3 x4 x5 x_8 P6 k) ∧ (S 31 x_14 = 1 → wX8_outcomes_86 S x1 x2 x3 x4 x5 x_8 3 P6 k))))))))))
def wX8_outcomes_6 (S : St) (x1 : Int) (x2 : Int) (x3 : Int) (x4 : Int) (x5 : Int) (k : Int → St → Prop) : Prop :=
  wlp (fun (P : Int × Int × St → Prop) (a : Int × Int × St) => wX8_outcomes_6_b a.2.2 x1 x2 x3 a.1 a.2.1 (fun b0 b1 b2 => P (b0, b1, b2)) k) (x4, x5, S)
def wX8_outcomes_0 (S : St) (x1 : Int) (x2 : Int) (x3 : Int) (k : Int → St → Prop) : Prop :=
  wX8_outcomes_6 S x1 x2 x3 0 0 k
def wX8_outcomes (S : St) (x1 : Int) (x2 : Int) (x3 : Int) (k : Int → St → Prop) : Prop := wX8_outcomes_0 S x1 x2 x3 k
def wX8_conflicts_0 (S : St) (x1 : Int) (k : Int → St → Prop) : Prop :=
  wX8_isType S x1 (fun x_1 S_1 => (¬ x_1 = 0 → wX8_t S_1 x1 (fun x_4 => (0 ≤ x_4 ∧ x_4 < 48) ∧ ((S_1 11 x_4 = 0 → wX8_outcomes S_1 x1 (-3) 0 (fun x_9 S_9 => k x_9 S_9)) ∧ (¬ S_1 11 x_4 = 0 → k (-13) S_1)))) ∧ (x_1 = 0 → k (-11) S_1))
def wX8_conflicts (S : St) (x1 : Int) (k : Int → St → Prop) : Prop := wX8_conflicts_0 S x1 k
def wX8_tally_0 (S : St) (x1 : Int) (x2 : Int) (k : Int → St → Prop) : Prop :=
  wX8_isType S x1 (fun x_1 S_1 => (¬ x_1 = 0 → wX8_in S_1 x2 (-7) 0 (fun x_5 => (¬ x_5 = 0 → wX8_t S_1 x1 (fun x_8 => (0 ≤ x_8 ∧ x_8 < 48) ∧ ((S_1 11 x_8 = 0 → wX8_outcomes S_1 x1 x2 1 (fun x_12 S_12 => k x_12 S_12)) ∧ (¬ S_1 11 x_8 = 0 → k (-13) S_1)))) ∧ (x_5 = 0 → k (-12) S_1))) ∧ (x_1 = 0 → k (-11) S_1))
def wX8_tally (S : St) (x1 : Int) (x2 : Int) (k : Int → St → Prop) : Prop := wX8_tally_0 S x1 x2 k
def wX8_told_0 (S : St) (x1 : Int) (k : Int → St → Prop) : Prop :=
  ∀ S_2 : St, S_2 = up S 0 10 (S 0 11) → (x1 = 0 → (0 ≤ S_2 0 10 ∧ S_2 0 10 < 2) ∧ (k (S_2 3 (S_2 0 10)) S_2)) ∧ (x1 = 1 → (0 ≤ S_2 0 10 ∧ S_2 0 10 < 2) ∧ (k (S_2 4 (S_2 0 10)) S_2)) ∧ (x1 = 2 → (0 ≤ S_2 0 10 ∧ S_2 0 10 < 2) ∧ (k (S_2 5 (S_2 0 10)) S_2)) ∧ (x1 = 3 → (0 ≤ S_2 0 10 ∧ S_2 0 10 < 2) ∧ (k (S_2 6 (S_2 0 10)) S_2)) ∧ (x1 = 4 → k (S_2 0 1) S_2) ∧ (x1 < 0 ∨ 4 < x1 → k (-12) S_2)
def wX8_told (S : St) (x1 : Int) (k : Int → St → Prop) : Prop := wX8_told_0 S x1 k
