section
/-! formulas: what both sides answer -/
variable {xs : Nat → Int32} {xl : Nat} {I J : w_I} {b : Bool} {Q : Option Value → w_I → w_I → Bool → Prop}
variable {s : Int → Int}
theorem f_evc {c v v' : Int → Int} (hv : ∀ i, 0 ≤ i → i < 10 → v i = v' i) : ∀ (n : Nat) (k : Int) (st : List Int), f_ok c n k st.length → f_ev c v n k st = f_ev c v' n k st
  | 0, _, _, _ => rfl
  | n + 1, k, st, h => by
    unfold f_ok at h
    rw [f_ev_s, f_ev_s]
    rcases h with ⟨b0, b1, b2, b3⟩ | ⟨b0, b1, b2, b3⟩ | ⟨b0, b1, b2, b3⟩
    · rw [if_pos b1, if_pos b1]
      exact f_evc hv n (k + 1) (c k :: st) (by simpa using b3)
    · rw [if_neg (by omega), if_pos (by omega), if_neg (by omega), if_pos (by omega), hv (c k - 10000) (by omega) (by omega)]
      exact f_evc hv n (k + 1) (v' (c k - 10000) :: st) (by simpa using b3)
    · rw [if_neg (by omega), if_neg (by omega), if_neg (by omega), if_neg (by omega)]
      match st, b2 with
      | y :: x :: r, _ =>
        dsimp only
        split
        · rfl
        · exact f_evc hv n (k + 1) (f_bin (c k) x y :: r) (by simpa using b3)
theorem m_litc {F : m_F} {v v' : Int → Int} (hv : ∀ i, 0 ≤ i → i < 10 → v i = v' i) {k : Int} (hl : m_lok F k) : m_litv F v k = m_litv F v' k := by
  unfold m_litv
  rw [f_evc hv _ _ [] hl.2.2.1.2.2.2.2, f_evc hv _ _ [] hl.2.2.2.2.2.2.2]
theorem m_hc {lit lit' : Int → Bool} {lr : Int → Int} : ∀ (n : Nat) (k row : Int) (all : Bool), (∀ i, k ≤ i → i < k + n → lit i = lit' i) → m_h lit lr n k row all = m_h lit' lr n k row all
  | 0, _, _, _, _ => rfl
  | n + 1, k, row, all, h => by
    show (if lr k = row then _ else _) = (if lr k = row then _ else _)
    rw [h k (Int.le_refl _) (by omega), m_hc n (k + 1) row (all && lit' k) (fun i a b => h i (by omega) (by omega)), m_hc n (k + 1) (lr k) (lit' k) (fun i a b => h i (by omega) (by omega))]
theorem m_rulec {F : m_F} {v v' : Int → Int} (hv : ∀ i, 0 ≤ i → i < 10 → v i = v' i) {a e : Int} (hl : ∀ k, a ≤ k → k < e → m_lok F k) : m_rulev F v a e = m_rulev F v' a e := by
  unfold m_rulev
  split
  · exact m_hc _ _ _ _ (fun i x y => m_litc hv (hl i x (by omega)))
  · rfl
/-- the class's code stands for the reference's -/
def f_df (w : Int) : Int := if w = 1 then 10009 else if w = 3 then 0 else 1
def c_cd (c5 c6 c7 : Int → Int) (F : m_F) (s : Int → Int) : Prop :=
  (∀ w, 0 ≤ w → w < 4 → 0 ≤ c6 w ∧ c6 w ≤ c7 w ∧ c7 w ≤ 404 ∧ ((s (11 + 2 * w) = -1 ∧ c7 w = c6 w + 1 ∧ c5 (c6 w) = f_df w) ∨ (0 ≤ s (11 + 2 * w) ∧ m_seg F (s (11 + 2 * w)) (s (11 + 2 * w + 1)) ∧ c7 w - c6 w = s (11 + 2 * w + 1) - s (11 + 2 * w) ∧ ∀ i, 0 ≤ i → i < s (11 + 2 * w + 1) - s (11 + 2 * w) → c5 (c6 w + i) = m_fc F (s (11 + 2 * w) + i)))) ∧
  (∀ r, 0 ≤ r → r < s 4 → 0 ≤ c6 (4 + r) ∧ c6 (4 + r) ≤ c7 (4 + r) ∧ c7 (4 + r) ≤ 404 ∧ 0 ≤ s (80 + 2 * r) ∧ s (80 + 2 * r) < s (80 + 2 * r + 1) ∧ s (80 + 2 * r + 1) ≤ 200 ∧
    (∀ k, s (80 + 2 * r) ≤ k → k < s (80 + 2 * r + 1) → m_lok F k ∧ w_in (m_lr F k) ∧ m_lr F (s (80 + 2 * r)) ≤ m_lr F k) ∧ (∀ k, s (80 + 2 * r) ≤ k → k + 1 < s (80 + 2 * r + 1) → m_lr F k ≤ m_lr F (k + 1)) ∧
    r_rel c5 F (s (80 + 2 * r)) (s (80 + 2 * r + 1) - s (80 + 2 * r)).toNat (s (80 + 2 * r)) (c6 (4 + r)) (c7 (4 + r)))
def f_oth (vars : Int → Int) (w : Int) : Int := if w = 1 then vars 9 else if w = 3 then 0 else 1
theorem m_lawc {F : m_F} {v v' : Int → Int} (hv : ∀ i, 0 ≤ i → i < 10 → v i = v' i) {w oth : Int} (hl : s (11 + 2 * w) = -1 ∨ (0 ≤ s (11 + 2 * w) ∧ m_seg F (s (11 + 2 * w)) (s (11 + 2 * w + 1)))) : m_lawv F s v w oth = m_lawv F s v' w oth := by
  unfold m_lawv
  rcases hl with h | ⟨h, A⟩
  · rw [if_pos (by omega), if_pos (by omega)]
  · rw [if_neg (by omega), if_neg (by omega), f_evc hv _ _ [] A.2.2.2.2]
theorem c_law {F : m_F} {vars : Int → Int} {w : Int} (cd : c_cd (I 5) (I 6) (I 7) F s) (h80 : I 80 = vars) (hw : 0 ≤ w ∧ w < 4) (hv : ∀ i, 0 ≤ i → i < 10 → w_in (vars i))
    (k : ∀ v, v = m_lawv F s vars w (f_oth vars w) → w_in v → ∀ I', w_fr p96 I I' → Q (some (w_i v)) I' J b) : w_C xs xl 96 [.ref 79, w_i w] I J b Q := by
  obtain ⟨c1, c2, c3, c4⟩ := cd.1 w hw.1 hw.2
  rcases c4 with ⟨d1, d2, d3⟩ | ⟨d1, A, d3, d4⟩
  · have ev : g_ev (I 5) vars (I 7 w - I 6 w).toNat (I 6 w) [] false = ([f_oth vars w], false) ∧ g_ok (I 5) (I 7 w - I 6 w).toNat (I 6 w) 0 := by
      rw [show (I 7 w - I 6 w).toNat = 0 + 1 by omega, g_ev_s]
      unfold g_ok
      rw [d3]
      unfold f_df f_oth
      by_cases e1 : w = 1
      · simp only [if_pos e1]
        exact ⟨rfl, Or.inl ⟨by decide, by decide, by decide, rfl⟩⟩
      · by_cases e3 : w = 3
        · simp only [if_neg e1, if_pos e3]
          exact ⟨rfl, Or.inl ⟨by decide, by decide, by decide, rfl⟩⟩
        · simp only [if_neg e1, if_neg e3]
          exact ⟨rfl, Or.inl ⟨by decide, by decide, by decide, rfl⟩⟩
    refine c96 rfl rfl rfl h80 (by omega) ⟨c1, c2, c3⟩ ev.2 hv (fun x fl hx hwx I' fr => ?_)
    rw [ev.1] at hx
    have e2 := (Prod.mk.inj hx).2
    have e1 := (List.cons.inj (Prod.mk.inj hx).1).1
    subst e2
    rw [if_neg (by decide)]
    refine k x ?_ hwx I' fr
    unfold m_lawv
    rw [if_pos (by omega), e1]
  · have hn : (I 7 w - I 6 w).toNat = (s (11 + 2 * w + 1) - s (11 + 2 * w)).toNat + 0 := by omega
    have gs := g_seg (c := I 5) (vars := vars) (m := 0) (st0 := []) (s (11 + 2 * w + 1) - s (11 + 2 * w)).toNat (I 6 w) (s (11 + 2 * w)) [] (fun i x y => d4 i x (by omega)) A.2.2.2.2
    have go := g_okseg (c := I 5) (m := 0) (d0 := 0) (by omega) (s (11 + 2 * w + 1) - s (11 + 2 * w)).toNat (I 6 w) (s (11 + 2 * w)) 0 (fun i x y => d4 i x (by omega)) A.2.2.2.2 rfl
    rw [← hn] at gs go
    refine c96 rfl rfl rfl h80 (by omega) ⟨c1, c2, c3⟩ go hv (fun x fl hx hwx I' fr => ?_)
    rcases f_ev_or (vars := vars) _ _ [] A.2.2.2.2 with ha | ⟨v, ha⟩
    · obtain ⟨z, hz⟩ := gs.2 ha false
      have hx : g_ev (I 5) vars (I 7 w - I 6 w).toNat (I 6 w) ([] ++ []) false = ([x], fl) := hx
      rw [hz] at hx
      have e2 : true = fl := (Prod.mk.inj hx).2
      subst e2
      rw [if_pos rfl]
      refine k 0 ?_ (by decide) I' fr
      unfold m_lawv
      rw [if_neg (by omega), ha]
    · have hx : g_ev (I 5) vars (I 7 w - I 6 w).toNat (I 6 w) ([] ++ []) false = ([x], fl) := hx
      rw [gs.1 v ha false] at hx
      have e2 : false = fl := (Prod.mk.inj hx).2
      have e1 : v = x := (List.cons.inj (Prod.mk.inj hx).1).1
      subst e2 e1
      rw [if_neg (by decide)]
      refine k v ?_ hwx I' fr
      unfold m_lawv
      rw [if_neg (by omega), ha]
theorem c_rule {F : m_F} {vars : Int → Int} {r : Int} (cd : c_cd (I 5) (I 6) (I 7) F s) (w : m_w0 s) (h80 : I 80 = vars) (hr : 0 ≤ r ∧ r < s 4) (hv : ∀ i, 0 ≤ i → i < 10 → w_in (vars i))
    (k1 : m_rulev F vars (s (80 + 2 * r)) (s (80 + 2 * r + 1)) = true → ∀ I', w_fr p96 I I' → Q (some (w_i 1)) I' J b) (k0 : m_rulev F vars (s (80 + 2 * r)) (s (80 + 2 * r + 1)) = false → ∀ I', w_fr p96 I I' → Q (some (w_i 0)) I' J b) : w_C xs xl 96 [.ref 79, w_i (4 + r)] I J b Q := by
  have w0 := w.1
  obtain ⟨c1, c2, c3, c4, c5, c6, c7, c8, c9⟩ := cd.2 r hr.1 hr.2
  generalize hn : (s (80 + 2 * r + 1) - s (80 + 2 * r)).toNat = n at c9
  obtain ⟨n, rfl⟩ : ∃ n', n = n' + 1 := ⟨n - 1, by omega⟩
  have rv := r_val (vars := vars) (fun k a b => (c7 k a b).1) c8 (fun k a b => (c7 k a b).2.2) n (s (80 + 2 * r)) (I 6 (4 + r)) [] false true c9 (by omega) (Int.le_refl _) (Or.inl ⟨fun x => by have := x.1; omega, Or.inl ⟨rfl, rfl, rfl⟩, rfl⟩)
  have rg := r_gok (fun k a b => (c7 k a b).1) c8 (fun k a b => (c7 k a b).2.2) n (s (80 + 2 * r)) (I 6 (4 + r)) 0 c9 (by omega) (Int.le_refl _) (Or.inl ⟨fun x => by have := x.1; omega, Or.inl ⟨rfl, rfl⟩⟩)
  have mr : m_rulev F vars (s (80 + 2 * r)) (s (80 + 2 * r + 1)) = m_h (m_litv F vars) (m_lr F) (n + 1) (s (80 + 2 * r)) (m_lr F (s (80 + 2 * r))) true := by
    unfold m_rulev
    rw [if_pos c5, hn]
  rw [Bool.false_or, ← mr] at rv
  refine c96 rfl rfl rfl h80 (by omega) ⟨c1, c2, c3⟩ rg hv (fun x fl hx hwx I' fr => ?_)
  rw [rv] at hx
  have e2 := (Prod.mk.inj hx).2
  have e1 := (List.cons.inj (Prod.mk.inj hx).1).1
  subst e2
  rw [if_neg (by decide), ← e1]
  cases hm : m_rulev F vars (s (80 + 2 * r)) (s (80 + 2 * r + 1)) with
  | true => rw [hm] at k1; exact k1 rfl I' fr
  | false => rw [hm] at k0; exact k0 rfl I' fr
theorem c161 {v most : Int} (hv : w_in v) (hm : 0 ≤ most ∧ most < 10000) (k : Q (some (w_i (m_clamp v most))) I J b) : w_C xs xl 161 [w_i v, w_i most] I J b Q := by
  obtain ⟨c1, c2, c3⟩ := m_clamp_c v most
  have e : max 0 (min most v) = m_clamp v most := by
    by_cases x : v < 0
    · rw [c1 x]; omega
    · by_cases y : v ≤ most
      · rw [c2 (by omega) y]; omega
      · rw [c3 (by omega) (by omega)]; omega
  refine e161 ?_
  rw [← e] at k
  refine b161_0 ?_
  try simp only [w_Ug, reduceIte, Nat.reduceEqDiff, Int.reduceEq, eq_self, if_true]
  repeat' (first | apply And.intro | intro)
  all_goals (try first | omega | contradiction | exact Or.inl trivial | exact Or.inr trivial)
end
