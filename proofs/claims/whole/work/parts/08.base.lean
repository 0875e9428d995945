/-! objects and arrays of the world, further rows -/
def isO (ci : Nat) (a : Int) : Prop := 0 ≤ a ∧ a < 1042 ∧ kd a.toNat = ci
theorem oc_of (B : St) {ci : Nat} {a : Int} (h : isO ci a) : OC (injC B) a.toNat a ci := ⟨by have := h.1; have := h.2.1; unfold NN; omega, h.2.2, vwC B (by have := h.2.1; omega) (by have := h.1; omega)⟩
theorem ocr (B : St) : OC (injR B) 1042 0 8 := ⟨by decide, by decide +kernel, vwR B (by decide) rfl⟩
theorem ock_0 (B : St) : OC (injC B) 1034 1034 0 := ⟨by decide, by decide +kernel, vwC B (by decide) rfl⟩
theorem ock_1 (B : St) : OC (injC B) 1037 1037 1 := ⟨by decide, by decide +kernel, vwC B (by decide) rfl⟩
theorem ock_4 (B : St) : OC (injC B) 1032 1032 4 := ⟨by decide, by decide +kernel, vwC B (by decide) rfl⟩
theorem ock_5 (B : St) : OC (injC B) 1028 1028 5 := ⟨by decide, by decide +kernel, vwC B (by decide) rfl⟩
theorem ock_7 (B : St) : OC (injC B) 0 0 7 := ⟨by decide, by decide +kernel, vwC B (by decide) rfl⟩
theorem ack_0_2 (B : St) : AC (injC B) 1035 1035 21 360 := ⟨by decide, by decide +kernel, by decide +kernel, vwC B (by decide) rfl⟩
theorem ack_0_3 (B : St) : AC (injC B) 1036 1036 21 120 := ⟨by decide, by decide +kernel, by decide +kernel, vwC B (by decide) rfl⟩
theorem ack_1_1 (B : St) : AC (injC B) 1038 1038 21 24 := ⟨by decide, by decide +kernel, by decide +kernel, vwC B (by decide) rfl⟩
theorem ack_1_3 (B : St) : AC (injC B) 1039 1039 21 24 := ⟨by decide, by decide +kernel, by decide +kernel, vwC B (by decide) rfl⟩
theorem ack_1_4 (B : St) : AC (injC B) 1040 1040 21 24 := ⟨by decide, by decide +kernel, by decide +kernel, vwC B (by decide) rfl⟩
theorem ack_1_5 (B : St) : AC (injC B) 1041 1041 23 24 := ⟨by decide, by decide +kernel, by decide +kernel, vwC B (by decide) rfl⟩
theorem tb_2 : ∀ i, i < 1042 → kd i = 2 → i + 5 < 1042 ∧ (kd (i + 1) = 24 ∧ ln (i + 1) = 24) ∧ (kd (i + 2) = 25 ∧ ln (i + 2) = 121) ∧ (kd (i + 3) = 22 ∧ ln (i + 3) = 242) ∧ (kd (i + 4) = 21 ∧ ln (i + 4) = 2880) ∧ (kd (i + 5) = 21 ∧ ln (i + 5) = 2880) := by decide +kernel
theorem ac_2_0 (B : St) {a : Int} (h : isO 2 a) : AC (injC B) (a.toNat + 1) (a + 1) 24 24 := by
  have h1 := h.1
  have h2 := h.2.1
  have t := tb_2 a.toNat (by omega) h.2.2
  have t1 := t.1
  exact ⟨by unfold NN; omega, t.2.1.1, by rw [t.2.1.2]; rfl, vwC B (by omega) (by omega)⟩
theorem ac_2_2 (B : St) {a : Int} (h : isO 2 a) : AC (injC B) (a.toNat + 2) (a + 2) 25 121 := by
  have h1 := h.1
  have h2 := h.2.1
  have t := tb_2 a.toNat (by omega) h.2.2
  have t1 := t.1
  exact ⟨by unfold NN; omega, t.2.2.1.1, by rw [t.2.2.1.2]; rfl, vwC B (by omega) (by omega)⟩
theorem ac_2_4 (B : St) {a : Int} (h : isO 2 a) : AC (injC B) (a.toNat + 3) (a + 3) 22 242 := by
  have h1 := h.1
  have h2 := h.2.1
  have t := tb_2 a.toNat (by omega) h.2.2
  have t1 := t.1
  exact ⟨by unfold NN; omega, t.2.2.2.1.1, by rw [t.2.2.2.1.2]; rfl, vwC B (by omega) (by omega)⟩
theorem ac_2_5 (B : St) {a : Int} (h : isO 2 a) : AC (injC B) (a.toNat + 4) (a + 4) 21 2880 := by
  have h1 := h.1
  have h2 := h.2.1
  have t := tb_2 a.toNat (by omega) h.2.2
  have t1 := t.1
  exact ⟨by unfold NN; omega, t.2.2.2.2.1.1, by rw [t.2.2.2.2.1.2]; rfl, vwC B (by omega) (by omega)⟩
theorem ac_2_6 (B : St) {a : Int} (h : isO 2 a) : AC (injC B) (a.toNat + 5) (a + 5) 21 2880 := by
  have h1 := h.1
  have h2 := h.2.1
  have t := tb_2 a.toNat (by omega) h.2.2
  have t1 := t.1
  exact ⟨by unfold NN; omega, t.2.2.2.2.2.1, by rw [t.2.2.2.2.2.2]; rfl, vwC B (by omega) (by omega)⟩
theorem tb_3 : ∀ i, i < 1042 → kd i = 3 → i + 2 < 1042 ∧ (kd (i + 1) = 21 ∧ ln (i + 1) = 3) ∧ (kd (i + 2) = 21 ∧ ln (i + 2) = 3) := by decide +kernel
theorem ac_3_5 (B : St) {a : Int} (h : isO 3 a) : AC (injC B) (a.toNat + 1) (a + 1) 21 3 := by
  have h1 := h.1
  have h2 := h.2.1
  have t := tb_3 a.toNat (by omega) h.2.2
  have t1 := t.1
  exact ⟨by unfold NN; omega, t.2.1.1, by rw [t.2.1.2]; rfl, vwC B (by omega) (by omega)⟩
theorem ac_3_6 (B : St) {a : Int} (h : isO 3 a) : AC (injC B) (a.toNat + 2) (a + 2) 21 3 := by
  have h1 := h.1
  have h2 := h.2.1
  have t := tb_3 a.toNat (by omega) h.2.2
  have t1 := t.1
  exact ⟨by unfold NN; omega, t.2.2.1, by rw [t.2.2.2]; rfl, vwC B (by omega) (by omega)⟩
theorem ack_4_2 (B : St) : AC (injC B) 1033 1033 22 572 := ⟨by decide, by decide +kernel, by decide +kernel, vwC B (by decide) rfl⟩
theorem ack_5_0 (B : St) : AC (injC B) 1029 1029 21 4001 := ⟨by decide, by decide +kernel, by decide +kernel, vwC B (by decide) rfl⟩
theorem ack_5_1 (B : St) : AC (injC B) 1030 1030 22 4001 := ⟨by decide, by decide +kernel, by decide +kernel, vwC B (by decide) rfl⟩
theorem ack_5_2 (B : St) : AC (injC B) 1031 1031 21 4001 := ⟨by decide, by decide +kernel, by decide +kernel, vwC B (by decide) rfl⟩
theorem tb_6 : ∀ i, i < 1042 → kd i = 6 → i + 5 < 1042 ∧ (kd (i + 1) = 22 ∧ ln (i + 1) = 2) ∧ (kd (i + 2) = 21 ∧ ln (i + 2) = 2) ∧ (kd (i + 3) = 21 ∧ ln (i + 3) = 4) ∧ (kd (i + 4) = 21 ∧ ln (i + 4) = 24) ∧ (kd (i + 5) = 21 ∧ ln (i + 5) = 48) := by decide +kernel
theorem ac_6_7 (B : St) {a : Int} (h : isO 6 a) : AC (injC B) (a.toNat + 1) (a + 1) 22 2 := by
  have h1 := h.1
  have h2 := h.2.1
  have t := tb_6 a.toNat (by omega) h.2.2
  have t1 := t.1
  exact ⟨by unfold NN; omega, t.2.1.1, by rw [t.2.1.2]; rfl, vwC B (by omega) (by omega)⟩
theorem ac_6_8 (B : St) {a : Int} (h : isO 6 a) : AC (injC B) (a.toNat + 2) (a + 2) 21 2 := by
  have h1 := h.1
  have h2 := h.2.1
  have t := tb_6 a.toNat (by omega) h.2.2
  have t1 := t.1
  exact ⟨by unfold NN; omega, t.2.2.1.1, by rw [t.2.2.1.2]; rfl, vwC B (by omega) (by omega)⟩
theorem ac_6_10 (B : St) {a : Int} (h : isO 6 a) : AC (injC B) (a.toNat + 3) (a + 3) 21 4 := by
  have h1 := h.1
  have h2 := h.2.1
  have t := tb_6 a.toNat (by omega) h.2.2
  have t1 := t.1
  exact ⟨by unfold NN; omega, t.2.2.2.1.1, by rw [t.2.2.2.1.2]; rfl, vwC B (by omega) (by omega)⟩
theorem ac_6_13 (B : St) {a : Int} (h : isO 6 a) : AC (injC B) (a.toNat + 4) (a + 4) 21 24 := by
  have h1 := h.1
  have h2 := h.2.1
  have t := tb_6 a.toNat (by omega) h.2.2
  have t1 := t.1
  exact ⟨by unfold NN; omega, t.2.2.2.2.1.1, by rw [t.2.2.2.2.1.2]; rfl, vwC B (by omega) (by omega)⟩
theorem ac_6_15 (B : St) {a : Int} (h : isO 6 a) : AC (injC B) (a.toNat + 5) (a + 5) 21 48 := by
  have h1 := h.1
  have h2 := h.2.1
  have t := tb_6 a.toNat (by omega) h.2.2
  have t1 := t.1
  exact ⟨by unfold NN; omega, t.2.2.2.2.2.1, by rw [t.2.2.2.2.2.2]; rfl, vwC B (by omega) (by omega)⟩
theorem ack_7_0 (B : St) : AC (injC B) 1 1 20 4000 := ⟨by decide, by decide +kernel, by decide +kernel, vwC B (by decide) rfl⟩
theorem acr_0 (B : St) : AC (injR B) 1043 1 20 4000 := ⟨by decide, by decide +kernel, by decide +kernel, vwR B (by decide) rfl⟩
theorem acr_3 (B : St) : AC (injR B) 1044 2 22 14 := ⟨by decide, by decide +kernel, by decide +kernel, vwR B (by decide) rfl⟩
theorem acr_12 (B : St) : AC (injR B) 1045 3 21 2 := ⟨by decide, by decide +kernel, by decide +kernel, vwR B (by decide) rfl⟩
theorem acr_13 (B : St) : AC (injR B) 1046 4 21 2 := ⟨by decide, by decide +kernel, by decide +kernel, vwR B (by decide) rfl⟩
theorem acr_14 (B : St) : AC (injR B) 1047 5 21 2 := ⟨by decide, by decide +kernel, by decide +kernel, vwR B (by decide) rfl⟩
theorem acr_15 (B : St) : AC (injR B) 1048 6 21 2 := ⟨by decide, by decide +kernel, by decide +kernel, vwR B (by decide) rfl⟩
theorem acr_16 (B : St) : AC (injR B) 1049 7 22 1402 := ⟨by decide, by decide +kernel, by decide +kernel, vwR B (by decide) rfl⟩
theorem acr_17 (B : St) : AC (injR B) 1050 8 22 48 := ⟨by decide, by decide +kernel, by decide +kernel, vwR B (by decide) rfl⟩
theorem acr_18 (B : St) : AC (injR B) 1051 9 21 48 := ⟨by decide, by decide +kernel, by decide +kernel, vwR B (by decide) rfl⟩
theorem acr_19 (B : St) : AC (injR B) 1052 10 21 48 := ⟨by decide, by decide +kernel, by decide +kernel, vwR B (by decide) rfl⟩
theorem acr_20 (B : St) : AC (injR B) 1053 11 21 48 := ⟨by decide, by decide +kernel, by decide +kernel, vwR B (by decide) rfl⟩
theorem acr_21 (B : St) : AC (injR B) 1054 12 21 48 := ⟨by decide, by decide +kernel, by decide +kernel, vwR B (by decide) rfl⟩
theorem acr_22 (B : St) : AC (injR B) 1055 13 21 48 := ⟨by decide, by decide +kernel, by decide +kernel, vwR B (by decide) rfl⟩
theorem acr_23 (B : St) : AC (injR B) 1056 14 22 96 := ⟨by decide, by decide +kernel, by decide +kernel, vwR B (by decide) rfl⟩
theorem acr_24 (B : St) : AC (injR B) 1057 15 21 96 := ⟨by decide, by decide +kernel, by decide +kernel, vwR B (by decide) rfl⟩
theorem acr_25 (B : St) : AC (injR B) 1058 16 21 48 := ⟨by decide, by decide +kernel, by decide +kernel, vwR B (by decide) rfl⟩
theorem acr_26 (B : St) : AC (injR B) 1059 17 21 240 := ⟨by decide, by decide +kernel, by decide +kernel, vwR B (by decide) rfl⟩
theorem acr_27 (B : St) : AC (injR B) 1060 18 21 480 := ⟨by decide, by decide +kernel, by decide +kernel, vwR B (by decide) rfl⟩
theorem acr_28 (B : St) : AC (injR B) 1061 19 21 48 := ⟨by decide, by decide +kernel, by decide +kernel, vwR B (by decide) rfl⟩
theorem acr_29 (B : St) : AC (injR B) 1062 20 21 48 := ⟨by decide, by decide +kernel, by decide +kernel, vwR B (by decide) rfl⟩
theorem acr_30 (B : St) : AC (injR B) 1063 21 21 1152 := ⟨by decide, by decide +kernel, by decide +kernel, vwR B (by decide) rfl⟩
theorem acr_31 (B : St) : AC (injR B) 1064 22 23 1152 := ⟨by decide, by decide +kernel, by decide +kernel, vwR B (by decide) rfl⟩
theorem acr_32 (B : St) : AC (injR B) 1065 23 21 2304 := ⟨by decide, by decide +kernel, by decide +kernel, vwR B (by decide) rfl⟩
theorem acr_33 (B : St) : AC (injR B) 1066 24 21 48 := ⟨by decide, by decide +kernel, by decide +kernel, vwR B (by decide) rfl⟩
theorem acr_34 (B : St) : AC (injR B) 1067 25 21 48 := ⟨by decide, by decide +kernel, by decide +kernel, vwR B (by decide) rfl⟩
theorem acr_35 (B : St) : AC (injR B) 1068 26 21 48 := ⟨by decide, by decide +kernel, by decide +kernel, vwR B (by decide) rfl⟩
theorem acr_36 (B : St) : AC (injR B) 1069 27 21 48 := ⟨by decide, by decide +kernel, by decide +kernel, vwR B (by decide) rfl⟩
theorem acr_37 (B : St) : AC (injR B) 1070 28 21 240 := ⟨by decide, by decide +kernel, by decide +kernel, vwR B (by decide) rfl⟩
theorem acr_38 (B : St) : AC (injR B) 1071 29 22 240 := ⟨by decide, by decide +kernel, by decide +kernel, vwR B (by decide) rfl⟩
theorem acr_39 (B : St) : AC (injR B) 1072 30 21 240 := ⟨by decide, by decide +kernel, by decide +kernel, vwR B (by decide) rfl⟩
theorem acr_40 (B : St) : AC (injR B) 1073 31 21 240 := ⟨by decide, by decide +kernel, by decide +kernel, vwR B (by decide) rfl⟩
theorem acr_41 (B : St) : AC (injR B) 1074 32 21 240 := ⟨by decide, by decide +kernel, by decide +kernel, vwR B (by decide) rfl⟩
theorem acr_42 (B : St) : AC (injR B) 1075 33 21 720 := ⟨by decide, by decide +kernel, by decide +kernel, vwR B (by decide) rfl⟩
theorem acr_43 (B : St) : AC (injR B) 1076 34 23 28800 := ⟨by decide, by decide +kernel, by decide +kernel, vwR B (by decide) rfl⟩
theorem acr_44 (B : St) : AC (injR B) 1077 35 21 14400 := ⟨by decide, by decide +kernel, by decide +kernel, vwR B (by decide) rfl⟩
theorem acr_45 (B : St) : AC (injR B) 1078 36 21 14400 := ⟨by decide, by decide +kernel, by decide +kernel, vwR B (by decide) rfl⟩
theorem acr_49 (B : St) : AC (injR B) 1079 37 21 24 := ⟨by decide, by decide +kernel, by decide +kernel, vwR B (by decide) rfl⟩
theorem acr_51 (B : St) : AC (injR B) 1080 38 21 24 := ⟨by decide, by decide +kernel, by decide +kernel, vwR B (by decide) rfl⟩
theorem acr_55 (B : St) : AC (injR B) 1081 39 21 24 := ⟨by decide, by decide +kernel, by decide +kernel, vwR B (by decide) rfl⟩
theorem acr_57 (B : St) : AC (injR B) 1082 40 23 576 := ⟨by decide, by decide +kernel, by decide +kernel, vwR B (by decide) rfl⟩
theorem ac_tape (B : St) : AC (injC B) 1 1 20 4000 := ack_7_0 B
theorem fam_of {a : Int} (h : isO 2 a) : a = 2 ∨ a = 515 := by
  have t : ∀ i, i < 1042 → kd i = 2 → i = 2 ∨ i = 515 := by decide +kernel
  have h1 := h.1
  have h2 := h.2.1
  rcases t a.toNat (by omega) h.2.2 with h3 | h3 <;> omega
theorem isO_ty {a X Y : Int} (h : isO 2 a) (hX : 0 ≤ X ∧ X < 24) (hY : Y = a + 6 + 6 * X) : isO 6 Y := by
  have t : ∀ x, x < 24 → kd (8 + 6 * x) = 6 ∧ kd (521 + 6 * x) = 6 := by decide +kernel
  have tx := t X.toNat (by omega)
  rcases fam_of h with rfl | rfl
  · exact ⟨by omega, by omega, by rw [show Y.toNat = 8 + 6 * X.toNat by omega]; exact tx.1⟩
  · exact ⟨by omega, by omega, by rw [show Y.toNat = 521 + 6 * X.toNat by omega]; exact tx.2⟩
theorem isO_mb {a X Y : Int} (h : isO 2 a) (hX : 0 ≤ X ∧ X < 121) (hY : Y = a + 150 + 3 * X) : isO 3 Y := by
  have t : ∀ x, x < 121 → kd (152 + 3 * x) = 3 ∧ kd (665 + 3 * x) = 3 := by decide +kernel
  have tx := t X.toNat (by omega)
  rcases fam_of h with rfl | rfl
  · exact ⟨by omega, by omega, by rw [show Y.toNat = 152 + 3 * X.toNat by omega]; exact tx.1⟩
  · exact ⟨by omega, by omega, by rw [show Y.toNat = 665 + 3 * X.toNat by omega]; exact tx.2⟩
theorem ti_inc {v : Int32} {x n : Int} (h : v.toInt = x) (hn : in32 n) : (v + Int32.ofInt n).toInt = w32 (x + n) := ti_add h (i32_toInt hn)
theorem cmp_eq {a b : Int} : cmp64 a b = 0 ↔ a = b := by unfold cmp64; split <;> (try split) <;> omega
theorem cmp_ne {a b : Int} : ¬ cmp64 a b = 0 ↔ ¬ a = b := by unfold cmp64; split <;> (try split) <;> omega
theorem cmp_lt {a b : Int} : cmp64 a b < 0 ↔ a < b := by unfold cmp64; split <;> (try split) <;> omega
theorem cmp_ge {a b : Int} : 0 ≤ cmp64 a b ↔ b ≤ a := by unfold cmp64; split <;> (try split) <;> omega
theorem cmp_gt {a b : Int} : 0 < cmp64 a b ↔ b < a := by unfold cmp64; split <;> (try split) <;> omega
theorem cmp_le {a b : Int} : cmp64 a b ≤ 0 ↔ a ≤ b := by unfold cmp64; split <;> (try split) <;> omega
def min32 (x y : Int) : Int := if y < x then y else x
section More
variable {p : Program} {l : Launch} {e : Env} {R : Room} {s : State} {m : MethodId} {args : Array Value} {below : List Frame} {meth : Method} {c : Code} {H : Heap} {locs : List Loc} {cells slots : Nat} {Q : State → Prop} {cc : ByteArray} {pc : Nat} {ls : Array Slot} {rest : List Value} {G : GG} {own : String} {nL : Nat} {rt : Option FieldType} {inj : St → St} {S : St} {i : Nat} {a : Int}
theorem y_getO (C : Cx p s m args meth c G own cc nL rt) {index ci k N c2 : Nat} {Cn : String} {T : u_T} {X : Int} (F : FL own index ci k Cn T N) (hW : Wd G (inj S) H) (O : OC inj i a ci) (hf : fkd ci k = 3) (hX : X = S a k) (hO : isO c2 X) (hdg : decode cc pc = .ok (.getfield index, 3))
    (kk : W p l e R s m args below meth c H locs cells slots Q (F0 m (pc + 3) ls (.ref (G.2.2 X.toNat) :: rest))) : W p l e R s m args below meth c H locs cells slots Q (F0 m pc ls (.ref (G.2.2 i) :: rest)) := by
  subst hX
  exact y_getR C F hW O hf hO.1 hdg kk
theorem y_tyO {B : St} (C : Cx p s m args meth c G own cc nL rt) (hW : Wd G (injC B S) H) (hF : isO 2 a) {x : Int32} {X Y : Int} (hx : x.toInt = X) (hin : 0 ≤ X ∧ X < 24) (hY : Y = a + 6 + 6 * X) (hdg : decode cc pc = .ok (.aaload, 1))
    (kk : W p l e R s m args below meth c H locs cells slots Q (F0 m (pc + 1) ls (.ref (G.2.2 Y.toNat) :: rest))) : W p l e R s m args below meth c H locs cells slots Q (F0 m pc ls (.int x :: .ref (G.2.2 (a.toNat + 1)) :: rest)) := by
  refine y_tald C hW (ac_2_0 B hF) hx hin hdg ?_
  have h1 := hF.1
  have e1 : a.toNat + 1 + 5 + 6 * X.toNat = Y.toNat := by omega
  rw [e1]
  exact kk
theorem y_mbO {B : St} (C : Cx p s m args meth c G own cc nL rt) (hW : Wd G (injC B S) H) (hF : isO 2 a) {x : Int32} {X Y : Int} (hx : x.toInt = X) (hin : 0 ≤ X ∧ X < 121) (hY : Y = a + 150 + 3 * X) (hdg : decode cc pc = .ok (.aaload, 1))
    (kk : W p l e R s m args below meth c H locs cells slots Q (F0 m (pc + 1) ls (.ref (G.2.2 Y.toNat) :: rest))) : W p l e R s m args below meth c H locs cells slots Q (F0 m pc ls (.int x :: .ref (G.2.2 (a.toNat + 2)) :: rest)) := by
  refine y_mald C hW (ac_2_2 B hF) hx hin hdg ?_
  have h1 := hF.1
  have e1 : a.toNat + 2 + 148 + 3 * X.toNat = Y.toNat := by omega
  rw [e1]
  exact kk
theorem y_tabIn (C : Cx p s m args meth c G own cc nL rt) {dflt lo hi : Int} {offs : Array Int} {len : Nat} {x : Int32} {X v : Int} (hx : x.toInt = X) (hX : X = v) (hdg : decode cc pc = .ok (.tableswitch dflt lo hi offs, len)) (h1 : ¬ v < lo) (h2 : ¬ hi < v) {off : Int} (ho : offs[(v - lo).toNat]? = some off) {tgt : Nat} (ht : (pc : Int) + off = (tgt : Int))
    (kk : W p l e R s m args below meth c H locs cells slots Q (F0 m tgt ls rest)) : W p l e R s m args below meth c H locs cells slots Q (F0 m pc ls (.int x :: rest)) := by
  subst hX
  subst hx
  exact lv_tableIn C.1.1 C.1.2.1 hdg h1 h2 ho ht kk
theorem y_tabOut (C : Cx p s m args meth c G own cc nL rt) {dflt lo hi : Int} {offs : Array Int} {len : Nat} {x : Int32} {X : Int} (hx : x.toInt = X) (hX : X < lo ∨ hi < X) (hdg : decode cc pc = .ok (.tableswitch dflt lo hi offs, len)) {tgt : Nat} (ht : (pc : Int) + dflt = (tgt : Int))
    (kk : W p l e R s m args below meth c H locs cells slots Q (F0 m tgt ls rest)) : W p l e R s m args below meth c H locs cells slots Q (F0 m pc ls (.int x :: rest)) := by
  subst hx
  exact lv_tableOut C.1.1 C.1.2.1 hdg hX ht kk
def MM (own : String) (ix : Nat) : Prop := Cond.methodLink own ix Lib.Math.min.name ∈ wT ∧ Cond.static Lib.Math.min.name ∈ wT ∧ Cond.initialized "java/lang/Math" ∈ wT ∧ Cond.code Lib.Math.min.name Lib.Math.min.code 2 (some .int) ∈ wT
theorem y_min (C : Cx p s m args meth c G own cc nL rt) {ix : Nat} (M : MM own ix) {x y : Int32} {X Y : Int} (hx : x.toInt = X) (hy : y.toInt = Y) (hsz : ls.size = nL) (hf : 1 ≤ R.frames) (hq : (rest.map fun v => v.category).sum + 13 ≤ R.locals) (hdg : decode cc pc = .ok (.invokestatic ix, 3))
    (kk : ∀ v : Int32, v.toInt = min32 X Y → W p l e R s m args below meth c H locs 0 0 Q (F0 m (pc + 3) ls (.int v :: rest))) : W p l e R s m args below meth c H locs 0 0 Q (F0 m pc ls (.int y :: .int x :: rest)) := by
  refine va_mmin C.1.1 C.1.2.1 (C.1.2.2.1.trans hsz.symm) C.1.2.2.2.1 (C.1.2.2.2.2 _ M.1) (C.1.2.2.2.2 _ M.2.1) (C.1.2.2.2.2 _ M.2.2.1) (C.1.2.2.2.2 _ M.2.2.2) hf hq (Nat.zero_le _) (Nat.zero_le _) hdg (kk _ ?_)
  unfold min32
  subst hx; subst hy
  simp only [Int32.lt_iff_toInt_lt]
  split <;> rfl
end More
