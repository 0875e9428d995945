/-! pure: close: those above a type: the reference -/
theorem run_gen {α β K : Type} {B : (α → Prop) → K → α → Prop} (I : α → Prop) (μ : α → Nat) (Q : β → Prop) (ex : K → β → Prop) (h : ∀ a, I a → (∃ a', I a' ∧ μ a' < μ a ∧ ∀ (P : α → Prop) (k : K), P a' → B P k a) ∨ (∃ b, Q b ∧ ∀ (P : α → Prop) (k : K), ex k b → B P k a)) {a : α} (ha : I a) : ∃ b, Q b ∧ ∀ k : K, ex k b → wlp (fun (P : α → Prop) (a : α) => B P k a) a := by
  have key : ∀ (n : Nat) (a : α), μ a < n → I a → ∃ b, Q b ∧ ∀ k : K, ex k b → wlp (fun (P : α → Prop) (a : α) => B P k a) a := by
    intro n
    induction n with
    | zero => intro a h0; exact absurd h0 (Nat.not_lt_zero _)
    | succ n ih =>
      intro a hn hI
      rcases h a hI with ⟨a', h1, h2, h3⟩ | ⟨b, h1, h2⟩
      · obtain ⟨b, hb, hk⟩ := ih a' (by omega) h1
        exact ⟨b, hb, fun k kb => wlp_step (a' := a') (fun P hP => h3 P k hP) (hk k kb)⟩
      · exact ⟨b, h1, fun k kb => wlp_exit (fun P => h2 P k kb)⟩
  exact key (μ a + 1) a (Nat.lt_succ_self _) ha
theorem nodup_len : ∀ (t : Nat) (L : List Int), L.Nodup → (∀ x ∈ L, 0 ≤ x ∧ x < t) → L.length ≤ t := by
  intro t
  induction t with
  | zero =>
    intro L _ h
    cases L with
    | nil => exact Nat.le_refl 0
    | cons x xs => have := h x List.mem_cons_self; omega
  | succ t ih =>
    intro L hn h
    have h1 : (L.erase (t : Int)).Nodup := hn.erase _
    have h2 : ∀ x ∈ L.erase (t : Int), 0 ≤ x ∧ x < t := by
      intro x hx
      have hx1 := h x (List.mem_of_mem_erase hx)
      have hne : x ≠ (t : Int) := fun e => by
        rw [e] at hx
        exact (List.Nodup.not_mem_erase hn) hx
      omega
    have h3 := ih _ h1 h2
    by_cases c : (t : Int) ∈ L
    · rw [List.length_erase_of_mem c] at h3
      omega
    · rw [List.erase_of_not_mem c] at h3
      omega
/-- REFS as told; arguments by way of one -/
def rf (D : St) (h t n : Int) : Int := D 17 (5 * (24 * h + t) + n)
def rk (D : St) (h t n k : Int) : Int := D 18 (2 * (5 * (24 * h + t) + n) + k)
def rpl (D : St) (h t n c : Int) : Int := if 100 ≤ c then rk D h t n (c - 100) else c
def ea (D : St) (h t n s k : Int) : Int := if k < D 13 (24 * h + s) then rpl D h t n (sVar D h (rf D h t n) s k) else -1
def w1 (D : St) (h t n : Int) : Int × Int × Int := (rf D h t n, rk D h t n 0, rk D h t n 1)
def w2 (D : St) (h t n k : Int) : Int × Int × Int := (ab D h (rf D h t n) k, ea D h t n (ab D h (rf D h t n) k) 0, ea D h t n (ab D h (rf D h t n) k) 1)
def w2L (D : St) (h t n : Int) : Nat → List (Int × Int × Int)
  | 0 => []
  | k + 1 => w2L D h t n k ++ [w2 D h t n k]
def wL (D : St) (h t : Int) : Nat → List (Int × Int × Int)
  | 0 => []
  | n + 1 => (wL D h t n ++ [w1 D h t n]) ++ w2L D h t n (D 20 (24 * h + rf D h t n)).toNat
def wW (D : St) (h t : Int) : List (Int × Int × Int) := wL D h t (D 16 (24 * h + t)).toNat
def sameA (D : St) (h x a b a' b' : Int) : Prop := (0 < D 13 (24 * h + x) → a = a') ∧ (1 < D 13 (24 * h + x) → b = b')
def agr (D : St) (h : Int) (W : List (Int × Int × Int)) : Prop := ∀ e ∈ W, ∀ e' ∈ W, e.1 = e'.1 → sameA D h e.1 e.2.1 e.2.2 e'.2.1 e'.2.2
def dd (W : List (Int × Int × Int)) : List Int := W.foldl (fun L e => if e.1 ∈ L then L else L ++ [e.1]) []
theorem dd_snoc (W : List (Int × Int × Int)) (e : Int × Int × Int) : dd (W ++ [e]) = if e.1 ∈ dd W then dd W else dd W ++ [e.1] := by
  unfold dd
  rw [List.foldl_append]
  rfl
theorem snoc_ind {α : Type} {P : List α → Prop} (h0 : P []) (hs : ∀ L x, P L → P (L ++ [x])) (L : List α) : P L := by
  have : ∀ n (L : List α), L.length = n → P L := by
    intro n
    induction n with
    | zero => intro L hL; rw [List.length_eq_zero_iff.mp hL]; exact h0
    | succ n ih =>
      intro L hL
      have hne : L ≠ [] := by intro e; rw [e] at hL; simp at hL
      rw [← List.dropLast_concat_getLast hne]
      exact hs _ _ (ih _ (by simp; omega))
  exact this _ L rfl
theorem dd_mem (W : List (Int × Int × Int)) : ∀ x, x ∈ dd W ↔ ∃ e, e ∈ W ∧ e.1 = x := by
  refine snoc_ind (P := fun W => ∀ x, x ∈ dd W ↔ ∃ e, e ∈ W ∧ e.1 = x) ?_ ?_ W
  · intro x
    constructor
    · intro h; exact absurd h List.not_mem_nil
    · rintro ⟨e, h, _⟩; exact absurd h List.not_mem_nil
  · intro W e ih x
    rw [dd_snoc]
    by_cases c : e.1 ∈ dd W
    · rw [if_pos c, ih x]
      constructor
      · rintro ⟨e', h1, h2⟩; exact ⟨e', List.mem_append.mpr (Or.inl h1), h2⟩
      · rintro ⟨e', h1, h2⟩
        rcases List.mem_append.mp h1 with g | g
        · exact ⟨e', g, h2⟩
        · rw [List.mem_singleton.mp g] at h2
          rw [← h2]
          exact (ih _).mp c
    · rw [if_neg c, List.mem_append, ih x]
      constructor
      · rintro (⟨e', h1, h2⟩ | h)
        · exact ⟨e', List.mem_append.mpr (Or.inl h1), h2⟩
        · exact ⟨e, List.mem_append.mpr (Or.inr List.mem_cons_self), (List.mem_singleton.mp h).symm⟩
      · rintro ⟨e', h1, h2⟩
        rcases List.mem_append.mp h1 with g | g
        · exact Or.inl ⟨e', g, h2⟩
        · rw [List.mem_singleton.mp g] at h2
          exact Or.inr (by rw [h2]; exact List.mem_cons_self)
theorem dd_nodup (W : List (Int × Int × Int)) : (dd W).Nodup := by
  refine snoc_ind (P := fun W => (dd W).Nodup) ?_ ?_ W
  · exact List.nodup_nil
  · intro W e ih
    rw [dd_snoc]
    by_cases c : e.1 ∈ dd W
    · rw [if_pos c]; exact ih
    · rw [if_neg c, List.nodup_append]
      refine ⟨ih, by simp, fun a ha b hb => ?_⟩
      rw [List.mem_singleton.mp hb]
      intro z
      rw [z] at ha
      exact c ha
def rwA (h t a j : Int) : Prop := (a = 20 ∧ j = 24 * h + t) ∨ ((a = 21 ∨ a = 22) ∧ 24 * (24 * h + t) ≤ j ∧ j < 24 * (24 * h + t) + 24) ∨ (a = 23 ∧ 48 * (24 * h + t) ≤ j ∧ j < 48 * (24 * h + t) + 48)
def offA (D S : St) (h t : Int) : Prop := ∀ a j, ¬ rwA h t a j → S a j = D a j
/-- what stands of a type when it is closed -/
def HT (D : St) (h t : Int) : Prop := half01 h ∧ (0 ≤ t ∧ t < 24) ∧ ((0 ≤ D 16 (24 * h + t) ∧ D 16 (24 * h + t) ≤ 4) ∧ ∀ n, 0 ≤ n → n < D 16 (24 * h + t) → 0 ≤ rf D h t n ∧ rf D h t n < t) ∧ (∀ u, 0 ≤ u → u ≤ t → 0 ≤ D 13 (24 * h + u) ∧ D 13 (24 * h + u) ≤ 2) ∧ (∀ u, 0 ≤ u → u < t → (0 ≤ D 20 (24 * h + u) ∧ D 20 (24 * h + u) ≤ u) ∧ ∀ i, 0 ≤ i → i < D 20 (24 * h + u) → 0 ≤ ab D h u i ∧ ab D h u i < u) ∧ ∀ u i k, 0 ≤ u → u < t → 0 ≤ i → i < D 20 (24 * h + u) → 0 ≤ k → k < D 13 (24 * h + ab D h u i) → D 23 (2 * (24 * (24 * h + u) + ab D h u i) + k) ≤ 101
theorem w2L_lt {D : St} {h t n : Int} (H : HT D h t) (hn : 0 ≤ n ∧ n < D 16 (24 * h + t)) (k : Nat) (hk : (k : Int) ≤ D 20 (24 * h + rf D h t n)) : ∀ e ∈ w2L D h t n k, 0 ≤ e.1 ∧ e.1 < t := by
  induction k with
  | zero => intro e he; exact absurd he List.not_mem_nil
  | succ k ih =>
    intro e he
    rcases List.mem_append.mp he with g | g
    · exact ih (by omega) e g
    · rw [List.mem_singleton.mp g]
      have r := H.2.2.1.2 n hn.1 hn.2
      have := (H.2.2.2.2.1 _ r.1 r.2).2 k (by omega) (by omega)
      show 0 ≤ ab D h (rf D h t n) k ∧ ab D h (rf D h t n) k < t
      omega
theorem wL_lt {D : St} {h t : Int} (H : HT D h t) (n : Nat) (hn : (n : Int) ≤ D 16 (24 * h + t)) : ∀ e ∈ wL D h t n, 0 ≤ e.1 ∧ e.1 < t := by
  induction n with
  | zero => intro e he; exact absurd he List.not_mem_nil
  | succ n ih =>
    intro e he
    have r := H.2.2.1.2 n (by omega) (by omega)
    rcases List.mem_append.mp he with g | g
    · rcases List.mem_append.mp g with g | g
      · exact ih (by omega) e g
      · rw [List.mem_singleton.mp g]; exact r
    · exact w2L_lt H ⟨by omega, by omega⟩ _ (by have := (H.2.2.2.2.1 _ r.1 r.2).1; omega) e g
/-- W has been put; f: some were unlike -/
def PutI (D : St) (h t : Int) (F W : List (Int × Int × Int)) (f : Int) (S : St) : Prop := offA D S h t ∧ S 20 (24 * h + t) = (dd W).length ∧ (∀ i : Nat, i < (dd W).length → S 21 (24 * (24 * h + t) + i) = (dd W).getD i 0) ∧ (∀ x, 0 ≤ x → x < 24 → (¬ S 22 (24 * (24 * h + t) + x) = 0 ↔ x ∈ dd W)) ∧ (∀ x, x ∈ dd W → ∃ e, e ∈ W ∧ e.1 = x ∧ S 23 (2 * (24 * (24 * h + t) + x)) = e.2.1 ∧ S 23 (2 * (24 * (24 * h + t) + x) + 1) = e.2.2) ∧ ((f = 0 ∧ ∀ e, e ∈ W → sameA D h e.1 e.2.1 e.2.2 (S 23 (2 * (24 * (24 * h + t) + e.1))) (S 23 (2 * (24 * (24 * h + t) + e.1) + 1))) ∨ (f = 1 ∧ ¬ agr D h F))
theorem R_puts {D S : St} {h t x a b f : Int} {F W : List (Int × Int × Int)} (hh : half01 h) (ht : 0 ≤ t ∧ t < 24) (hx : 0 ≤ x ∧ x < t) (h13 : 0 ≤ D 13 (24 * h + x) ∧ D 13 (24 * h + x) ≤ 2) (hS : S 0 10 = h) (I : PutI D h t F W f S) (hW : ∀ e ∈ W, 0 ≤ e.1 ∧ e.1 < t) (hF : ∀ e ∈ W ++ [(x, a, b)], e ∈ F) :
    ∃ r S', (r = 0 ∨ r = 1) ∧ PutI D h t F (W ++ [(x, a, b)]) (if r = 0 then f else 1) S' ∧ ∀ k : Int → St → Prop, k r S' → wX8_puts S t x a b k := by
  have hb01 : 0 ≤ h ∧ h ≤ 1 := by unfold half01 at hh; omega
  obtain ⟨I1, I2, I3, I4, I5, I6⟩ := I
  have len : (dd W).length ≤ t.toNat := nodup_len _ _ (dd_nodup W) (fun y hy => by
    obtain ⟨e, h1, h2⟩ := (dd_mem W y).mp hy
    have := hW e h1
    omega)
  obtain ⟨K, hK⟩ : ∃ K, K = 24 * (24 * h + t) + x := ⟨_, rfl⟩
  have e1 : w32 (w32 (24 * (24 * h + t)) + x) = K := by rw [w32_eq (x := 24 * (24 * h + t)) (by omega) (by omega), w32_eq (by omega) (by omega)]; exact hK.symm
  have e2 : w32 (2 * K) = 2 * K := w32_eq (by omega) (by omega)
  have e3 : w32 (2 * K + 1) = 2 * K + 1 := w32_eq (by omega) (by omega)
  have i4 := I4 x hx.1 (by omega)
  rw [← hK] at i4
  by_cases c : S 22 K = 0
  · have nd : ¬ x ∈ dd W := fun z => i4.mpr z c
    have eD : dd (W ++ [(x, a, b)]) = dd W ++ [x] := by rw [dd_snoc, if_neg nd]
    obtain ⟨T, hT⟩ : ∃ T, T = up (up (up (up (up S 22 K 1) 21 (24 * (24 * h + t) + (dd W).length) x) 20 (24 * h + t) ((dd W).length + 1)) 23 (2 * K) a) 23 (2 * K + 1) b := ⟨_, rfl⟩
    have oT : ∀ A j, ¬ (A = 22 ∧ j = K) → ¬ (A = 21 ∧ j = 24 * (24 * h + t) + (dd W).length) → ¬ (A = 20 ∧ j = 24 * h + t) → ¬ (A = 23 ∧ j = 2 * K) → ¬ (A = 23 ∧ j = 2 * K + 1) → T A j = S A j := by
      intro A j x1 x2 x3 x4 x5
      rw [hT, up_n _ x5, up_n _ x4, up_n _ x3, up_n _ x2, up_n _ x1]
    have T23a : T 23 (2 * K) = a := by rw [hT, up_n _ (by omega), up_s]
    have T23b : T 23 (2 * K + 1) = b := by rw [hT, up_s]
    refine ⟨0, T, Or.inl rfl, ?_, fun k hk => ?_⟩
    · rw [if_pos rfl]
      have old : ∀ y, y ∈ dd W → T 23 (2 * (24 * (24 * h + t) + y)) = S 23 (2 * (24 * (24 * h + t) + y)) ∧ T 23 (2 * (24 * (24 * h + t) + y) + 1) = S 23 (2 * (24 * (24 * h + t) + y) + 1) := by
        intro y hy
        have ne : y ≠ x := fun z => nd (by rw [← z]; exact hy)
        exact ⟨oT _ _ (by omega) (by omega) (by omega) (by omega) (by omega), oT _ _ (by omega) (by omega) (by omega) (by omega) (by omega)⟩
      refine ⟨fun A j z => ?_, ?_, ?_, ?_, ?_, ?_⟩
      · rw [oT A j (fun w => z (by unfold rwA; omega)) (fun w => z (by unfold rwA; omega)) (fun w => z (by unfold rwA; omega)) (fun w => z (by unfold rwA; omega)) (fun w => z (by unfold rwA; omega))]
        exact I1 A j z
      · rw [hT, up_n _ (by omega), up_n _ (by omega), up_s, eD]; simp
      · rw [eD]
        intro i hi
        rw [List.length_append, List.length_singleton] at hi
        by_cases e : i = (dd W).length
        · subst e
          rw [hT, up_n _ (by omega), up_n _ (by omega), up_n _ (by omega), up_s]; simp
        · rw [oT _ _ (by omega) (by omega) (by omega) (by omega) (by omega), I3 i (by omega)]
          simp [List.getElem?_append_left (show i < (dd W).length by omega)]
      · intro y y0 y1
        rw [eD, List.mem_append]
        by_cases e : y = x
        · subst e
          rw [← hK, hT, up_n _ (by omega), up_n _ (by omega), up_n _ (by omega), up_n _ (by omega), up_s]
          exact ⟨fun _ => Or.inr List.mem_cons_self, fun _ => by decide⟩
        · rw [oT _ _ (by omega) (by omega) (by omega) (by omega) (by omega), I4 y y0 y1]
          exact ⟨fun z => Or.inl z, fun z => z.elim id (fun w => absurd (List.mem_singleton.mp w) e)⟩
      · rw [eD]
        intro y hy
        rcases List.mem_append.mp hy with g | g
        · obtain ⟨e, h1, h2, h3, h4⟩ := I5 y g
          exact ⟨e, List.mem_append.mpr (Or.inl h1), h2, (old y g).1.trans h3, (old y g).2.trans h4⟩
        · have := List.mem_singleton.mp g
          subst this
          refine ⟨(y, a, b), List.mem_append.mpr (Or.inr List.mem_cons_self), rfl, ?_, ?_⟩
          · rw [← hK]; exact T23a
          · rw [← hK]; exact T23b
      · rcases I6 with g | g
        · refine Or.inl ⟨g.1, fun e he => ?_⟩
          rcases List.mem_append.mp he with z | z
          · have hy : e.1 ∈ dd W := (dd_mem W _).mpr ⟨e, z, rfl⟩
            rw [(old _ hy).1, (old _ hy).2]
            exact g.2 e z
          · rw [List.mem_singleton.mp z]
            dsimp only
            rw [← hK, T23a, T23b]
            exact ⟨fun _ => rfl, fun _ => rfl⟩
        · exact Or.inr g
    · unfold wX8_puts wX8_puts_0
      refine R_t hS hh ht (fun K' eK' => ?_)
      rw [e1] at eK'
      rw [eK', e2, e3]
      refine ⟨by omega, fun _ => ⟨by omega, fun U1 u1 => ?_⟩, fun z => absurd c z⟩
      have hS1 : U1 0 10 = h := by rw [u1, up_n _ (by omega)]; exact hS
      have h20 : U1 20 (24 * h + t) = (dd W).length := by rw [u1, up_n _ (by omega)]; exact I2
      refine R_t hS1 hh ht (R_t hS1 hh ht ?_)
      rw [h20, w32_eq (x := 24 * (24 * h + t)) (by omega) (by omega), w32_eq (x := 24 * (24 * h + t) + ((dd W).length : Int)) (by omega) (by omega)]
      refine ⟨by omega, by omega, fun U2 u2 => ?_⟩
      have hS2 : U2 0 10 = h := by rw [u2, up_n _ (by omega)]; exact hS1
      have h20' : U2 20 (24 * h + t) = (dd W).length := by rw [u2, up_n _ (by omega)]; exact h20
      refine R_t hS2 hh ht ?_
      rw [h20', w32_eq (by omega) (by omega)]
      refine ⟨by omega, by omega, fun U3 u3 => ⟨by omega, fun U4 u4 => ⟨by omega, fun U5 u5 => ?_⟩⟩⟩
      have : U5 = T := by rw [u5, u4, u3, u2, u1, hT]
      rw [this]; exact hk
  · have md : x ∈ dd W := i4.mp c
    have eD : dd (W ++ [(x, a, b)]) = dd W := by rw [dd_snoc, if_pos md]
    have keep : ∀ r : Int, ((r = 0 ∧ sameA D h x a b (S 23 (2 * K)) (S 23 (2 * K + 1))) ∨ (r = 1 ∧ ¬ sameA D h x a b (S 23 (2 * K)) (S 23 (2 * K + 1)))) → PutI D h t F (W ++ [(x, a, b)]) (if r = 0 then f else 1) S := by
      intro r hr
      refine ⟨I1, by rw [eD]; exact I2, by rw [eD]; exact I3, by rw [eD]; exact I4, ?_, ?_⟩
      · rw [eD]
        intro y hy
        obtain ⟨e, h1, h2⟩ := I5 y hy
        exact ⟨e, List.mem_append.mpr (Or.inl h1), h2⟩
      · rcases hr with ⟨r0, r1⟩ | ⟨r0, r1⟩
        · rw [if_pos r0]
          rcases I6 with g | g
          · refine Or.inl ⟨g.1, fun e he => ?_⟩
            rcases List.mem_append.mp he with z | z
            · exact g.2 e z
            · rw [List.mem_singleton.mp z]
              dsimp only
              rw [← hK]; exact r1
          · exact Or.inr g
        · rw [if_neg (by omega)]
          refine Or.inr ⟨rfl, fun ag => r1 ?_⟩
          obtain ⟨e, h1, h2, h3, h4⟩ := I5 x md
          have := ag (x, a, b) (hF _ (List.mem_append.mpr (Or.inr List.mem_cons_self))) e (hF _ (List.mem_append.mpr (Or.inl h1))) h2.symm
          rw [hK, h3, h4]
          exact this
    have d13 : S 13 (24 * h + x) = D 13 (24 * h + x) := I1 _ _ (by unfold rwA; omega)
    have run : ∀ r : Int, ((r = 0 ∧ sameA D h x a b (S 23 (2 * K)) (S 23 (2 * K + 1))) ∨ (r = 1 ∧ ¬ sameA D h x a b (S 23 (2 * K)) (S 23 (2 * K + 1)))) → ∀ k : Int → St → Prop, k r S → wX8_puts S t x a b k := by
      intro r hr k hk
      have y : sameA D h x a b (S 23 (2 * K)) (S 23 (2 * K + 1)) → k 0 S := by
        intro z
        rcases hr with w | w
        · rw [w.1] at hk; exact hk
        · exact absurd z w.2
      have n : ¬ sameA D h x a b (S 23 (2 * K)) (S 23 (2 * K + 1)) → k 1 S := by
        intro z
        rcases hr with w | w
        · exact absurd w.2 z
        · rw [w.1] at hk; exact hk
      unfold wX8_puts wX8_puts_0
      refine R_t hS hh ht (fun K' eK' => ?_)
      rw [e1] at eK'
      rw [eK', e2, e3]
      refine ⟨by omega, fun z => absurd z c, fun _ => R_t hS hh (by omega) ?_⟩
      have p48 : (0 < D 13 (24 * h + x) → a = S 23 (2 * K)) → wX8_puts_48 S x b K k := by
        intro ha
        unfold wX8_puts_48
        refine R_t hS hh (by omega) ?_
        rw [d13, e2, e3]
        refine ⟨by omega, fun z => y ⟨ha, fun w => by omega⟩, fun z => ⟨by omega, fun z2 => y ⟨ha, fun _ => z2.symm⟩, fun z2 => n (fun w => z2 (w.2 z).symm)⟩⟩
      rw [d13]
      exact ⟨by omega, fun z => p48 (fun w => by omega), fun z => ⟨by omega, fun z2 => n (fun w => z2 (w.1 z).symm), fun z2 => p48 (fun _ => z2.symm)⟩⟩
    by_cases s : sameA D h x a b (S 23 (2 * K)) (S 23 (2 * K + 1))
    · exact ⟨0, S, Or.inl rfl, keep 0 (Or.inl ⟨rfl, s⟩), run 0 (Or.inl ⟨rfl, s⟩)⟩
    · exact ⟨1, S, Or.inr rfl, keep 1 (Or.inr ⟨rfl, s⟩), run 1 (Or.inr ⟨rfl, s⟩)⟩
theorem PutI.f01 {D S : St} {h t f : Int} {F W : List (Int × Int × Int)} (I : PutI D h t F W f S) : f = 0 ∨ f = 1 := by
  rcases I.2.2.2.2.2 with g | g
  · exact Or.inl g.1
  · exact Or.inr g.1
theorem PutI.hf {D S : St} {h t f x : Int} {F W : List (Int × Int × Int)} (I : PutI D h t F W f S) (e : D 0 10 = x) : S 0 10 = x := (I.1 0 10 (by unfold rwA; omega)).trans e
theorem wL_sub (D : St) (h t : Int) : ∀ d n : Nat, ∀ e ∈ wL D h t n, e ∈ wL D h t (n + d) := by
  intro d
  induction d with
  | zero => intro n e he; exact he
  | succ d ih =>
    intro n e he
    exact List.mem_append.mpr (Or.inl (List.mem_append.mpr (Or.inl (ih n e he))))
theorem w2L_sub (D : St) (h t n : Int) : ∀ d k : Nat, ∀ e ∈ w2L D h t n k, e ∈ w2L D h t n (k + d) := by
  intro d
  induction d with
  | zero => intro n e he; exact he
  | succ d ih =>
    intro n e he
    exact List.mem_append.mpr (Or.inl (ih n e he))
theorem R_replaced {S : St} {D : St} {h t n c : Int} {k : Int → Prop} (hh : half01 h) (ht : 0 ≤ t ∧ t < 24) (hn : 0 ≤ n ∧ n < 5) (e18 : ∀ j, S 18 j = D 18 j) (hc : c ≤ 101) (hk : k (rpl D h t n c)) : wX8_replaced S c (5 * (24 * h + t) + n) k := by
  have hb01 : 0 ≤ h ∧ h ≤ 1 := by unfold half01 at hh; omega
  unfold wX8_replaced wX8_replaced_0
  unfold rpl rk at hk
  refine ⟨fun z => by rwa [if_neg (by omega)] at hk, fun z => ?_⟩
  rw [if_pos z] at hk
  rw [w32_eq (x := 2 * (5 * (24 * h + t) + n)) (by omega) (by omega), w32_eq (x := 2 * (5 * (24 * h + t) + n) + c) (by omega) (by omega), w32_eq (by omega) (by omega), e18]
  refine ⟨by omega, ?_⟩
  rw [show 2 * (5 * (24 * h + t) + n) + c - 100 = 2 * (5 * (24 * h + t) + n) + (c - 100) by omega]
  exact hk
theorem ea_le {D : St} {h t : Int} (H : HT D h t) {n k q : Int} (hn : 0 ≤ n ∧ n < D 16 (24 * h + t)) (hk : 0 ≤ k ∧ k < D 20 (24 * h + rf D h t n)) (hq : 0 ≤ q ∧ q < D 13 (24 * h + ab D h (rf D h t n) k)) : sVar D h (rf D h t n) (ab D h (rf D h t n) k) q ≤ 101 := by
  have r := H.2.2.1.2 n hn.1 hn.2
  have u := (H.2.2.2.2.1 _ r.1 r.2).2 k hk.1 hk.2
  unfold sVar
  rw [if_neg (by omega)]
  exact H.2.2.2.2.2 (rf D h t n) k q r.1 r.2 hk.1 hk.2 hq.1 hq.2
theorem R_torn_in {D S : St} {h t f : Int} {n : Nat} (H : HT D h t) (hD : D 0 10 = h) (hn : (n : Int) < D 16 (24 * h + t)) (I : PutI D h t (wW D h t) (wL D h t n ++ [w1 D h t n]) f S) : ∃ b : Int × St, PutI D h t (wW D h t) (wL D h t (n + 1)) b.1 b.2 ∧ ∀ k : (Int → Int → St → Prop) × (Int → St → Prop), k.1 b.1 ((n : Int) + 1) b.2 → wX8_isTorn_115 S t (24 * h + t) f n (5 * (24 * h + t) + n) (rf D h t n) 0 k.1 k.2 := by
  have H' := H
  obtain ⟨hh, ht, ⟨hr1, hr2⟩, h13, hu, hs⟩ := H
  have hb01 : 0 ≤ h ∧ h ≤ 1 := by unfold half01 at hh; omega
  have r := hr2 n (by omega) (by omega)
  obtain ⟨N, hN⟩ : ∃ N : Nat, D 20 (24 * h + rf D h t n) = N := ⟨(D 20 (24 * h + rf D h t n)).toNat, by have := (hu _ r.1 r.2).1; omega⟩
  have uu := hu _ r.1 r.2
  have eN : (D 20 (24 * h + rf D h t n)).toNat = N := by omega
  have inF : ∀ k : Nat, k ≤ N → ∀ e ∈ (wL D h t n ++ [w1 D h t n]) ++ w2L D h t n k, e ∈ wW D h t := by
    intro k hk e he
    have e1 : e ∈ wL D h t (n + 1) := by
      show e ∈ (wL D h t n ++ [w1 D h t n]) ++ w2L D h t n (D 20 (24 * h + rf D h t n)).toNat
      rw [eN]
      rcases List.mem_append.mp he with g | g
      · exact List.mem_append.mpr (Or.inl g)
      · refine List.mem_append.mpr (Or.inr ?_)
        have := w2L_sub D h t n (N - k) k e g
        rwa [show k + (N - k) = N by omega] at this
    have := wL_sub D h t ((D 16 (24 * h + t)).toNat - (n + 1)) (n + 1) e e1
    rwa [show n + 1 + ((D 16 (24 * h + t)).toNat - (n + 1)) = (D 16 (24 * h + t)).toNat by omega] at this
  unfold wX8_isTorn_115
  refine run_gen (α := Int × Int × St) (β := Int × St) (B := fun P (k : (Int → Int → St → Prop) × (Int → St → Prop)) a => wX8_isTorn_115_b a.2.2 t (24 * h + t) a.1 n (5 * (24 * h + t) + n) (rf D h t n) a.2.1 k.1 (fun b0 b1 b2 => P (b0, b1, b2)) k.2)
    (fun a => ∃ i : Nat, i ≤ N ∧ a.2.1 = i ∧ PutI D h t (wW D h t) ((wL D h t n ++ [w1 D h t n]) ++ w2L D h t n i) a.1 a.2.2) (fun a => (N - a.2.1).toNat) (fun b => PutI D h t (wW D h t) (wL D h t (n + 1)) b.1 b.2) (fun k b => k.1 b.1 ((n : Int) + 1) b.2) ?_ (a := (f, 0, S)) ⟨0, by omega, rfl, by simpa [w2L] using I⟩
  intro a ⟨i, hi, ea1, hI⟩
  obtain ⟨f1, y, S1⟩ := a
  dsimp only at ea1 hI
  subst ea1
  have hS1 := hI.hf hD
  have o1 := hI.1
  have d20 : S1 20 (24 * h + rf D h t n) = N := (o1 _ _ (by unfold rwA; omega)).trans hN
  have d13 : ∀ u, 0 ≤ u → u < t → S1 13 (24 * h + u) = D 13 (24 * h + u) := fun u u0 u1 => o1 _ _ (by unfold rwA; omega)
  have d18 : ∀ j, S1 18 j = D 18 j := fun j => o1 _ _ (by unfold rwA; omega)
  by_cases c : i = N
  · right
    subst c
    refine ⟨(f1, S1), ?_, fun P k hk => ?_⟩
    · show PutI D h t (wW D h t) ((wL D h t n ++ [w1 D h t n]) ++ w2L D h t n (D 20 (24 * h + rf D h t n)).toNat) f1 S1
      rw [eN]; exact hI
    · show wX8_isTorn_115_b S1 t (24 * h + t) f1 n (5 * (24 * h + t) + n) (rf D h t n) i k.1 (fun b0 b1 b2 => P (b0, b1, b2)) k.2
      unfold wX8_isTorn_115_b
      refine R_t hS1 hh (by omega) ?_
      rw [d20]
      refine ⟨by omega, fun _ x ex => ?_, fun z => by omega⟩
      rw [ex, w32_eq (by omega) (by omega)]
      exact hk
  · left
    have hiN : (i : Int) < D 20 (24 * h + rf D h t n) := by omega
    obtain ⟨s, es⟩ : ∃ s, s = ab D h (rf D h t n) i := ⟨_, rfl⟩
    have hs1 := uu.2 i (by omega) hiN
    rw [← es] at hs1
    have v13 := h13 s hs1.1 (by omega)
    have lt : ∀ e ∈ (wL D h t n ++ [w1 D h t n]) ++ w2L D h t n i, 0 ≤ e.1 ∧ e.1 < t := by
      intro e he
      rcases List.mem_append.mp he with g | g
      · rcases List.mem_append.mp g with g | g
        · exact wL_lt H' n (by omega) e g
        · rw [List.mem_singleton.mp g]; exact r
      · exact w2L_lt H' ⟨by omega, hn⟩ i (by omega) e g
    have inF1 : ∀ e ∈ ((wL D h t n ++ [w1 D h t n]) ++ w2L D h t n i) ++ [(s, ea D h t n s 0, ea D h t n s 1)], e ∈ wW D h t := by
      intro e he
      refine inF (i + 1) (by omega) e ?_
      rw [List.append_assoc] at he
      rw [es] at he
      exact he
    obtain ⟨r1, S2, r01, hI2, run⟩ := R_puts hh ht ⟨hs1.1, by omega⟩ v13 hS1 hI lt inF1
    have eW : (wL D h t n ++ [w1 D h t n]) ++ w2L D h t n (i + 1) = ((wL D h t n ++ [w1 D h t n]) ++ w2L D h t n i) ++ [(s, ea D h t n s 0, ea D h t n s 1)] := by
      show (wL D h t n ++ [w1 D h t n]) ++ (w2L D h t n i ++ [w2 D h t n i]) = _
      rw [← List.append_assoc, es]; rfl
    refine ⟨(if r1 = 0 then f1 else 1, (i : Int) + 1, S2), ⟨i + 1, by omega, by dsimp only; omega, by dsimp only; rw [eW]; exact hI2⟩, by dsimp only; omega, fun P k hP => ?_⟩
    show wX8_isTorn_115_b S1 t (24 * h + t) f1 n (5 * (24 * h + t) + n) (rf D h t n) i k.1 (fun b0 b1 b2 => P (b0, b1, b2)) k.2
    unfold wX8_isTorn_115_b
    refine R_t hS1 hh (by omega) ?_
    rw [d20]
    refine ⟨by omega, fun z => by omega, fun _ => R_t hS1 hh (by omega) ?_⟩
    have d21 : S1 21 (24 * (24 * h + rf D h t n) + i) = s := by
      rw [o1 _ _ (by unfold rwA; omega), es]; rfl
    rw [w32_eq (x := 24 * (24 * h + rf D h t n)) (by omega) (by omega), w32_eq (by omega) (by omega), d21]
    refine ⟨by omega, fun s' es' => ?_⟩
    rw [es']
    have fin : ∀ b' : Int, b' = ea D h t n s 1 → wX8_isTorn_219 S1 t (24 * h + t) f1 n (5 * (24 * h + t) + n) (rf D h t n) i s (ea D h t n s 0) b' k.1 (fun b0 b1 b2 => P (b0, b1, b2)) k.2 := by
      intro b' eb
      unfold wX8_isTorn_219 wX8_isTorn_239
      rw [eb]
      have f01 := hI.f01
      refine run _ ⟨fun z x ex => ?_, fun z => ⟨fun z2 x ex => ?_, fun z2 x ex => ?_⟩⟩
      · rw [ex, w32_eq (by omega) (by omega)]
        rw [if_neg z] at hP; exact hP
      · rw [ex, w32_eq (by omega) (by omega)]
        rw [if_pos z, z2] at hP; exact hP
      · rw [ex, w32_eq (by omega) (by omega)]
        rw [if_pos z] at hP
        have : f1 = 1 := by omega
        rw [this] at hP; exact hP
    have AD : ∀ j, S1 23 (2 * (24 * (24 * h + rf D h t n) + s) + j) = D 23 (2 * (24 * (24 * h + rf D h t n) + s) + j) ∨ ¬ (0 ≤ j ∧ j ≤ 1) := by
      intro j
      by_cases z : 0 ≤ j ∧ j ≤ 1
      · left
        refine o1 _ _ ?_
        unfold rwA
        omega
      · exact Or.inr z
    have seen : ∀ (q : Int) (kq : Int → Prop), 0 ≤ q ∧ q ≤ 1 → kq (sVar D h (rf D h t n) s q) → wX8_seenVar S1 (rf D h t n) s q kq := by
      intro q kq hq hk
      unfold wX8_seenVar wX8_seenVar_0
      unfold sVar at hk
      refine ⟨fun z => R_t hS1 hh (by omega) ?_, fun z => by omega⟩
      rw [if_neg z] at hk
      rw [w32_eq (x := 24 * (24 * h + rf D h t n)) (by omega) (by omega), w32_eq (x := 24 * (24 * h + rf D h t n) + s) (by omega) (by omega), w32_eq (x := 2 * (24 * (24 * h + rf D h t n) + s)) (by omega) (by omega), w32_eq (by omega) (by omega)]
      refine ⟨by omega, ?_⟩
      rcases AD q with g | g
      · rw [g]; exact hk
      · exact absurd hq g
    have stp : wX8_isTorn_183 S1 t (24 * h + t) f1 n (5 * (24 * h + t) + n) (rf D h t n) i s (ea D h t n s 0) k.1 (fun b0 b1 b2 => P (b0, b1, b2)) k.2 := by
      unfold wX8_isTorn_183
      refine R_t hS1 hh (by omega) ?_
      rw [d13 s hs1.1 (by omega)]
      refine ⟨by omega, fun z => fin (-1) (by unfold ea; rw [if_neg (by omega)]), fun z => seen 1 _ (by omega) (R_replaced hh ht (by omega) d18 ?_ (fin _ ?_))⟩
      · rw [es]; rw [es] at z; exact ea_le H' ⟨by omega, hn⟩ ⟨by omega, hiN⟩ ⟨by omega, z⟩
      · unfold ea; rw [if_pos (by omega)]
    refine R_t hS1 hh (by omega) ?_
    rw [d13 s hs1.1 (by omega)]
    refine ⟨by omega, fun z => ?_, fun z => seen 0 _ (by omega) (R_replaced hh ht (by omega) d18 ?_ ?_)⟩
    · have : ea D h t n s 0 = -1 := by unfold ea; rw [if_neg (by omega)]
      rw [this] at stp; exact stp
    · rw [es]; rw [es] at z; exact ea_le H' ⟨by omega, hn⟩ ⟨by omega, hiN⟩ ⟨by omega, z⟩
    · have : ea D h t n s 0 = rpl D h t n (sVar D h (rf D h t n) s 0) := by unfold ea; rw [if_pos (by omega)]
      rw [← this]; exact stp
theorem R_isTorn {D : St} {h t : Int} (H : HT D h t) (hD : D 0 10 = h) : ∃ b : Int × St, PutI D h t (wW D h t) (wW D h t) b.1 b.2 ∧ ∀ k : Int → St → Prop, k b.1 b.2 → wX8_isTorn D t k := by
  have H' := H
  obtain ⟨hh, ht, ⟨hr1, hr2⟩, h13, hu, hs⟩ := H
  have hb01 : 0 ≤ h ∧ h ≤ 1 := by unfold half01 at hh; omega
  obtain ⟨T, hT⟩ : ∃ T, T = up D 20 (24 * h + t) 0 := ⟨_, rfl⟩
  have T10 : T 0 10 = h := by rw [hT, up_n _ (by omega)]; exact hD
  obtain ⟨N, hN⟩ : ∃ N : Nat, D 16 (24 * h + t) = N := ⟨(D 16 (24 * h + t)).toNat, by omega⟩
  have eN : (D 16 (24 * h + t)).toNat = N := by omega
  -- the rounds over the REFS
  have main : ∀ U : St, PutI D h t (wW D h t) [] 0 U → ∃ b : Int × St, PutI D h t (wW D h t) (wW D h t) b.1 b.2 ∧ ∀ k : Int → St → Prop, k b.1 b.2 → wX8_isTorn_44 U t (24 * h + t) 0 0 k := by
    intro U hU
    unfold wX8_isTorn_44
    refine run_gen (α := Int × Int × St) (β := Int × St) (B := fun P (k : Int → St → Prop) a => wX8_isTorn_44_b a.2.2 t (24 * h + t) a.1 a.2.1 (fun b0 b1 b2 => P (b0, b1, b2)) k)
      (fun a => ∃ n : Nat, n ≤ N ∧ a.2.1 = n ∧ PutI D h t (wW D h t) (wL D h t n) a.1 a.2.2) (fun a => (N - a.2.1).toNat) (fun b => PutI D h t (wW D h t) (wW D h t) b.1 b.2) (fun k b => k b.1 b.2) ?_ (a := (0, 0, U)) ⟨0, by omega, rfl, hU⟩
    intro a ⟨n, hn, ea1, hI⟩
    obtain ⟨f1, y, S1⟩ := a
    dsimp only at ea1 hI
    subst ea1
    have hS1 := hI.hf hD
    have o1 := hI.1
    have d16 : S1 16 (24 * h + t) = N := (o1 _ _ (by unfold rwA; omega)).trans hN
    by_cases c : n = N
    · right
      subst c
      refine ⟨(f1, S1), ?_, fun P k hk => ?_⟩
      · show PutI D h t (wW D h t) (wL D h t (D 16 (24 * h + t)).toNat) f1 S1
        rw [eN]; exact hI
      · show wX8_isTorn_44_b S1 t (24 * h + t) f1 n (fun b0 b1 b2 => P (b0, b1, b2)) k
        unfold wX8_isTorn_44_b
        rw [d16]
        exact ⟨by omega, fun _ => ⟨hI.f01, hk⟩, fun z => by omega⟩
    · left
      have r := hr2 n (by omega) (by omega)
      have hn16 : (n : Int) < D 16 (24 * h + t) := by omega
      have inF1 : ∀ e ∈ wL D h t n ++ [(rf D h t n, rk D h t n 0, rk D h t n 1)], e ∈ wW D h t := by
        intro e he
        have e1 : e ∈ wL D h t (n + 1) := List.mem_append.mpr (Or.inl he)
        have := wL_sub D h t (N - (n + 1)) (n + 1) e e1
        unfold wW
        rwa [show n + 1 + (N - (n + 1)) = (D 16 (24 * h + t)).toNat by omega] at this
      obtain ⟨r1, S2, r01, hI2, run⟩ := R_puts hh ht r (h13 _ r.1 (by omega)) hS1 hI (wL_lt H' n (by omega)) inF1
      obtain ⟨b, hb, hk⟩ := R_torn_in H' hD hn16 hI2
      refine ⟨(b.1, (n : Int) + 1, b.2), ⟨n + 1, by omega, by dsimp only; omega, hb⟩, by dsimp only; omega, fun P k hP => ?_⟩
      show wX8_isTorn_44_b S1 t (24 * h + t) f1 n (fun b0 b1 b2 => P (b0, b1, b2)) k
      unfold wX8_isTorn_44_b wX8_isTorn_106
      rw [d16]
      refine ⟨by omega, fun z => by omega, fun _ x ex => ?_⟩
      rw [w32_eq (x := 5 * (24 * h + t)) (by omega) (by omega), w32_eq (by omega) (by omega)] at ex
      rw [ex]
      have d17 : S1 17 (5 * (24 * h + t) + n) = rf D h t n := o1 _ _ (by unfold rwA; omega)
      have d18 : ∀ j, S1 18 j = D 18 j := fun j => o1 _ _ (by unfold rwA; omega)
      rw [d17, w32_eq (x := 2 * (5 * (24 * h + t) + (n : Int))) (by omega) (by omega), w32_eq (x := 2 * (5 * (24 * h + t) + (n : Int)) + 1) (by omega) (by omega), d18, d18]
      refine ⟨by omega, fun y ey => ⟨by omega, by omega, ?_⟩⟩
      rw [ey]
      have e0 : D 18 (2 * (5 * (24 * h + t) + (n : Int))) = rk D h t n 0 := by unfold rk; rw [Int.add_zero]
      have e1 : D 18 (2 * (5 * (24 * h + t) + (n : Int)) + 1) = rk D h t n 1 := rfl
      rw [e0, e1]
      have go := hk (fun b0 b1 b2 => P (b0, b1, b2), k) hP
      have f01 := hI.f01
      refine run _ ⟨fun z => ?_, fun z => ⟨fun z2 => ?_, fun z2 => ?_⟩⟩
      · rw [if_neg z] at go; exact go
      · rw [if_pos z, z2] at go; exact go
      · rw [if_pos z] at go
        have : f1 = 1 := by omega
        rw [this] at go; exact go
  -- the row is cleared first
  obtain ⟨U, ⟨hU1, hU2⟩, hU3⟩ : ∃ U, ((∀ a j, ¬ rwA h t a j → U a j = D a j) ∧ U 20 (24 * h + t) = 0 ∧ ∀ x, 0 ≤ x → x < 24 → U 22 (24 * (24 * h + t) + x) = 0) ∧ ∀ k : Int → St → Prop, wX8_isTorn_44 U t (24 * h + t) 0 0 k → wX8_isTorn_15 T t (24 * h + t) 0 k := by
    unfold wX8_isTorn_15
    have := run_gen (α := Int × St) (β := St) (B := fun P (k : Int → St → Prop) a => wX8_isTorn_15_b a.2 t (24 * h + t) a.1 (fun b0 b1 => P (b0, b1)) k)
      (fun a => ∃ i : Nat, i ≤ 24 ∧ a.1 = i ∧ (∀ c j, ¬ rwA h t c j → a.2 c j = D c j) ∧ a.2 20 (24 * h + t) = 0 ∧ ∀ x : Int, 0 ≤ x → x < (i : Int) → a.2 22 (24 * (24 * h + t) + x) = 0) (fun a => (24 - a.1).toNat) (fun U => (∀ a j, ¬ rwA h t a j → U a j = D a j) ∧ U 20 (24 * h + t) = 0 ∧ ∀ x, 0 ≤ x → x < 24 → U 22 (24 * (24 * h + t) + x) = 0) (fun k U => wX8_isTorn_44 U t (24 * h + t) 0 0 k) ?_ (a := (0, T)) ⟨0, by omega, rfl, fun c j z => by dsimp only; rw [hT, up_n _ (fun w => z (by unfold rwA; omega))], by dsimp only; rw [hT, up_s], fun x x0 x1 => by omega⟩
    · obtain ⟨b, hb, hk⟩ := this
      exact ⟨b, hb, hk⟩
    intro a ⟨i, hi, e1, a1, a2, a3⟩
    obtain ⟨y, S1⟩ := a
    dsimp only at e1 a1 a2 a3
    subst e1
    by_cases c : i = 24
    · right
      subst c
      refine ⟨S1, ⟨a1, a2, fun x x0 x1 => a3 x x0 (by omega)⟩, fun P k hk => ?_⟩
      show wX8_isTorn_15_b S1 t (24 * h + t) ((24 : Nat) : Int) (fun b0 b1 => P (b0, b1)) k
      unfold wX8_isTorn_15_b
      exact ⟨fun _ => hk, fun z => absurd z (by decide)⟩
    · left
      refine ⟨((i : Int) + 1, up S1 22 (24 * (24 * h + t) + i) 0), ⟨i + 1, by omega, by dsimp only; omega, fun c j z => ?_, ?_, fun x x0 x1 => ?_⟩, by dsimp only; omega, fun P k hP => ?_⟩
      · dsimp only; rw [up_n _ (fun w => z (by unfold rwA; omega))]; exact a1 c j z
      · dsimp only; rw [up_n _ (by omega)]; exact a2
      · dsimp only
        by_cases e : x = i
        · rw [e, up_s]
        · rw [up_n _ (by omega)]; exact a3 x x0 (by omega)
      · show wX8_isTorn_15_b S1 t (24 * h + t) i (fun b0 b1 => P (b0, b1)) k
        unfold wX8_isTorn_15_b
        rw [w32_eq (x := 24 * (24 * h + t)) (by omega) (by omega), w32_eq (x := 24 * (24 * h + t) + (i : Int)) (by omega) (by omega)]
        refine ⟨fun z => by omega, fun _ => ⟨by omega, fun U eU x ex => ?_⟩⟩
        rw [ex, w32_eq (by omega) (by omega), eU]
        exact hP
  obtain ⟨b, hb, hk⟩ := main U ⟨hU1, by rw [hU2.1]; rfl, fun i hi => absurd hi (Nat.not_lt_zero _), fun x x0 x1 => ⟨fun z => absurd (hU2.2 x x0 x1) z, fun z => absurd z List.not_mem_nil⟩, fun x hx => absurd hx List.not_mem_nil, Or.inl ⟨rfl, fun e he => absurd he List.not_mem_nil⟩⟩
  refine ⟨b, hb, fun k kb => ?_⟩
  unfold wX8_isTorn wX8_isTorn_0
  refine R_t hD hh ht ⟨by omega, fun T' eT' => ?_⟩
  rw [eT', ← hT]
  exact hU3 k (hk k kb)
