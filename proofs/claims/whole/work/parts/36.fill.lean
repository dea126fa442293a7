section
section WT
variable {xs : Nat → Int32} {xl y pc : Nat} {L : x_L} {M : x_J} {S : List Value} {I J : w_I} {b : Bool} {Q : Option Value → w_I → w_I → Bool → Prop}
theorem w_alen {a1 b1 p1 q1 q a n t0 : Nat} {n' : Int} (hi : x_ins y pc = some (.arraylength, 1, a1, b1, p1, q1)) (hp : pc + 1 = q) (hs : Nat.ble a 90000 = true) (ha : w_ar a = some (t0, n)) (ht : Nat.ble (t0 + 1) 5 = true) (hn : ((n : Nat) : Int) = n') (t : w_T xs xl y q L M (w_i n' :: S) I J b Q) : w_T xs xl y pc L M (.ref a :: S) I J b Q := by
  subst hp hn
  refine w_go hi rfl ?_ t
  have hlt : a ≠ 100000 ∧ a ≠ 100002 := by
    have := Nat.le_of_ble_eq_true hs
    omega
  show x_alen xl y pc L M (.ref a :: S) (w_K, w_h I, w_hj J, w_A b) = _
  unfold x_alen x_r1
  dsimp only
  split
  · exact absurd rfl hlt.1
  · exact absurd rfl hlt.2
  · rw [w_are ha]
    dsimp only
    rw [if_pos (show t0 < 5 from Nat.le_of_ble_eq_true ht), ← Int32.ofInt_eq_ofNat]
    rfl
end WT
theorem e295_30 {xs : Nat → Int32} {xl : Nat} {I J : w_I} {b : Bool} {Q : Option Value → w_I → w_I → Bool → Prop} {a1 : Int} (t : w_T xs xl 295 0 [some (.ref 30), some (w_i a1), none, none] [] [] I J b Q) : w_C xs xl 295 [.ref 30, w_i a1] I J b Q := w_en rfl t
theorem b295_0_30 {xs : Nat → Int32} {xl : Nat} {I J : w_I} {b : Bool} {Q : Option Value → w_I → w_I → Bool → Prop} {a1 : Int} (k : w_T xs xl 295 5 [some (.ref 30), some (w_i a1), some (w_i 0), some (w_i 24)] [] [] I J b Q) : w_T xs xl 295 0 [some (.ref 30), some (w_i a1), none, none] [] [] I J b Q := by
  refine w_iconst (q := 1) rfl rfl ?_
  refine w_istore_n (q := 2) (L' := [some (.ref 30), some (w_i a1), some (w_i 0), none]) (M' := []) rfl rfl rfl rfl rfl ?_
  refine w_aload_n (q := 3) rfl rfl rfl ?_
  refine w_alen (q := 4) (n := 24) rfl rfl rfl rfl rfl rfl ?_
  refine w_istore_n (q := 5) (L' := [some (.ref 30), some (w_i a1), some (w_i 0), some (w_i 24)]) (M' := []) rfl rfl rfl rfl rfl ?_
  exact k
theorem b295_5_30 {xs : Nat → Int32} {xl : Nat} {I J : w_I} {b : Bool} {Q : Option Value → w_I → w_I → Bool → Prop} {l1 l2 l3 : Int} (k : ((-2147483648 ≤ l2 ∧ l2 < 2147483648) ∧ (-2147483648 ≤ l3 ∧ l3 < 2147483648) ∧ ((l3 ≤ l2 → Q none I J b) ∧ (¬ l3 ≤ l2 → ((0 ≤ l2 ∧ l2 < 24) ∧ w_T xs xl 295 5 [some (.ref 30), some (w_i l1), some (w_i (l2 + 1)), some (w_i l3)] [] [] (w_U I 30 l2 l1) J b Q))))) : w_T xs xl 295 5 [some (.ref 30), some (w_i l1), some (w_i l2), some (w_i l3)] [] [] I J b Q := by
  refine w_iload_n (q := 6) rfl rfl rfl ?_
  refine w_iload_n (q := 7) rfl rfl rfl ?_
  obtain ⟨h1, h2, k⟩ := k
  refine w_cge (t := 20) (q := 10) rfl rfl rfl h1 h2 (fun c3 => ?_) (fun c3 => ?_)
  · replace k := k.1 c3
    exact w_vret rfl k
  · replace k := k.2 c3
    refine w_aload_n (q := 11) rfl rfl rfl ?_
    refine w_iload_n (q := 12) rfl rfl rfl ?_
    refine w_iload_n (q := 13) rfl rfl rfl ?_
    obtain ⟨h4, k⟩ := k
    refine w_iast (q := 14) (n := 24) rfl rfl rfl rfl rfl h4 ?_
    refine w_iinc (q := 17) (L' := [some (.ref 30), some (w_i l1), some (w_i (l2 + 1)), some (w_i l3)]) (M' := []) rfl rfl rfl rfl rfl rfl ?_
    refine w_goto (t := 5) rfl rfl ?_
    exact k
theorem f295_30 {xs : Nat → Int32} {xl : Nat} {I J : w_I} {b : Bool} {Q : Option Value → w_I → w_I → Bool → Prop} {v : Int} (k : ∀ I', (∀ a, a ≠ 30 → I' a = I a) → (∀ i, 0 ≤ i → i < 24 → I' 30 i = v) → Q none I' J b) : w_C xs xl 295 [.ref 30, w_i v] I J b Q := by
  refine e295_30 (b295_0_30 ?_)
  have loop : ∀ (m : Nat) (l2 : Int) (I1 : w_I), l2 + m = 24 → 0 ≤ l2 → (∀ a, a ≠ 30 → I1 a = I a) → (∀ i, 0 ≤ i → i < l2 → I1 30 i = v) → w_T xs xl 295 5 [some (.ref 30), some (w_i v), some (w_i l2), some (w_i 24)] [] [] I1 J b Q := by
    intro m
    induction m with
    | zero =>
      intro l2 I1 h0 h1 h2 h3
      refine b295_5_30 ?_
      repeat' (first | apply And.intro | intro)
      all_goals (try first | omega | contradiction)
      exact k I1 h2 (fun i a1 a2 => h3 i a1 (by omega))
    | succ m ih =>
      intro l2 I1 h0 h1 h2 h3
      refine b295_5_30 ?_
      repeat' (first | apply And.intro | intro)
      all_goals (try first | omega | contradiction)
      refine ih (l2 + 1) _ (by omega) (by omega) (fun a ha => by rw [w_Ua ha]; exact h2 a ha) (fun i a1 a2 => ?_)
      rw [w_Ug, if_pos rfl]
      split
      · rfl
      · exact h3 i a1 (by omega)
  exact loop 24 0 I (by omega) (by omega) (fun _ _ => rfl) (fun i a1 a2 => by omega)
theorem e295_44 {xs : Nat → Int32} {xl : Nat} {I J : w_I} {b : Bool} {Q : Option Value → w_I → w_I → Bool → Prop} {a1 : Int} (t : w_T xs xl 295 0 [some (.ref 44), some (w_i a1), none, none] [] [] I J b Q) : w_C xs xl 295 [.ref 44, w_i a1] I J b Q := w_en rfl t
theorem b295_0_44 {xs : Nat → Int32} {xl : Nat} {I J : w_I} {b : Bool} {Q : Option Value → w_I → w_I → Bool → Prop} {a1 : Int} (k : w_T xs xl 295 5 [some (.ref 44), some (w_i a1), some (w_i 0), some (w_i 24)] [] [] I J b Q) : w_T xs xl 295 0 [some (.ref 44), some (w_i a1), none, none] [] [] I J b Q := by
  refine w_iconst (q := 1) rfl rfl ?_
  refine w_istore_n (q := 2) (L' := [some (.ref 44), some (w_i a1), some (w_i 0), none]) (M' := []) rfl rfl rfl rfl rfl ?_
  refine w_aload_n (q := 3) rfl rfl rfl ?_
  refine w_alen (q := 4) (n := 24) rfl rfl rfl rfl rfl rfl ?_
  refine w_istore_n (q := 5) (L' := [some (.ref 44), some (w_i a1), some (w_i 0), some (w_i 24)]) (M' := []) rfl rfl rfl rfl rfl ?_
  exact k
theorem b295_5_44 {xs : Nat → Int32} {xl : Nat} {I J : w_I} {b : Bool} {Q : Option Value → w_I → w_I → Bool → Prop} {l1 l2 l3 : Int} (k : ((-2147483648 ≤ l2 ∧ l2 < 2147483648) ∧ (-2147483648 ≤ l3 ∧ l3 < 2147483648) ∧ ((l3 ≤ l2 → Q none I J b) ∧ (¬ l3 ≤ l2 → ((0 ≤ l2 ∧ l2 < 24) ∧ w_T xs xl 295 5 [some (.ref 44), some (w_i l1), some (w_i (l2 + 1)), some (w_i l3)] [] [] (w_U I 44 l2 l1) J b Q))))) : w_T xs xl 295 5 [some (.ref 44), some (w_i l1), some (w_i l2), some (w_i l3)] [] [] I J b Q := by
  refine w_iload_n (q := 6) rfl rfl rfl ?_
  refine w_iload_n (q := 7) rfl rfl rfl ?_
  obtain ⟨h1, h2, k⟩ := k
  refine w_cge (t := 20) (q := 10) rfl rfl rfl h1 h2 (fun c3 => ?_) (fun c3 => ?_)
  · replace k := k.1 c3
    exact w_vret rfl k
  · replace k := k.2 c3
    refine w_aload_n (q := 11) rfl rfl rfl ?_
    refine w_iload_n (q := 12) rfl rfl rfl ?_
    refine w_iload_n (q := 13) rfl rfl rfl ?_
    obtain ⟨h4, k⟩ := k
    refine w_iast (q := 14) (n := 24) rfl rfl rfl rfl rfl h4 ?_
    refine w_iinc (q := 17) (L' := [some (.ref 44), some (w_i l1), some (w_i (l2 + 1)), some (w_i l3)]) (M' := []) rfl rfl rfl rfl rfl rfl ?_
    refine w_goto (t := 5) rfl rfl ?_
    exact k
theorem f295_44 {xs : Nat → Int32} {xl : Nat} {I J : w_I} {b : Bool} {Q : Option Value → w_I → w_I → Bool → Prop} {v : Int} (k : ∀ I', (∀ a, a ≠ 44 → I' a = I a) → (∀ i, 0 ≤ i → i < 24 → I' 44 i = v) → Q none I' J b) : w_C xs xl 295 [.ref 44, w_i v] I J b Q := by
  refine e295_44 (b295_0_44 ?_)
  have loop : ∀ (m : Nat) (l2 : Int) (I1 : w_I), l2 + m = 24 → 0 ≤ l2 → (∀ a, a ≠ 44 → I1 a = I a) → (∀ i, 0 ≤ i → i < l2 → I1 44 i = v) → w_T xs xl 295 5 [some (.ref 44), some (w_i v), some (w_i l2), some (w_i 24)] [] [] I1 J b Q := by
    intro m
    induction m with
    | zero =>
      intro l2 I1 h0 h1 h2 h3
      refine b295_5_44 ?_
      repeat' (first | apply And.intro | intro)
      all_goals (try first | omega | contradiction)
      exact k I1 h2 (fun i a1 a2 => h3 i a1 (by omega))
    | succ m ih =>
      intro l2 I1 h0 h1 h2 h3
      refine b295_5_44 ?_
      repeat' (first | apply And.intro | intro)
      all_goals (try first | omega | contradiction)
      refine ih (l2 + 1) _ (by omega) (by omega) (fun a ha => by rw [w_Ua ha]; exact h2 a ha) (fun i a1 a2 => ?_)
      rw [w_Ug, if_pos rfl]
      split
      · rfl
      · exact h3 i a1 (by omega)
  exact loop 24 0 I (by omega) (by omega) (fun _ _ => rfl) (fun i a1 a2 => by omega)
theorem e295_80 {xs : Nat → Int32} {xl : Nat} {I J : w_I} {b : Bool} {Q : Option Value → w_I → w_I → Bool → Prop} {a1 : Int} (t : w_T xs xl 295 0 [some (.ref 80), some (w_i a1), none, none] [] [] I J b Q) : w_C xs xl 295 [.ref 80, w_i a1] I J b Q := w_en rfl t
theorem b295_0_80 {xs : Nat → Int32} {xl : Nat} {I J : w_I} {b : Bool} {Q : Option Value → w_I → w_I → Bool → Prop} {a1 : Int} (k : w_T xs xl 295 5 [some (.ref 80), some (w_i a1), some (w_i 0), some (w_i 10)] [] [] I J b Q) : w_T xs xl 295 0 [some (.ref 80), some (w_i a1), none, none] [] [] I J b Q := by
  refine w_iconst (q := 1) rfl rfl ?_
  refine w_istore_n (q := 2) (L' := [some (.ref 80), some (w_i a1), some (w_i 0), none]) (M' := []) rfl rfl rfl rfl rfl ?_
  refine w_aload_n (q := 3) rfl rfl rfl ?_
  refine w_alen (q := 4) (n := 10) rfl rfl rfl rfl rfl rfl ?_
  refine w_istore_n (q := 5) (L' := [some (.ref 80), some (w_i a1), some (w_i 0), some (w_i 10)]) (M' := []) rfl rfl rfl rfl rfl ?_
  exact k
theorem b295_5_80 {xs : Nat → Int32} {xl : Nat} {I J : w_I} {b : Bool} {Q : Option Value → w_I → w_I → Bool → Prop} {l1 l2 l3 : Int} (k : ((-2147483648 ≤ l2 ∧ l2 < 2147483648) ∧ (-2147483648 ≤ l3 ∧ l3 < 2147483648) ∧ ((l3 ≤ l2 → Q none I J b) ∧ (¬ l3 ≤ l2 → ((0 ≤ l2 ∧ l2 < 10) ∧ w_T xs xl 295 5 [some (.ref 80), some (w_i l1), some (w_i (l2 + 1)), some (w_i l3)] [] [] (w_U I 80 l2 l1) J b Q))))) : w_T xs xl 295 5 [some (.ref 80), some (w_i l1), some (w_i l2), some (w_i l3)] [] [] I J b Q := by
  refine w_iload_n (q := 6) rfl rfl rfl ?_
  refine w_iload_n (q := 7) rfl rfl rfl ?_
  obtain ⟨h1, h2, k⟩ := k
  refine w_cge (t := 20) (q := 10) rfl rfl rfl h1 h2 (fun c3 => ?_) (fun c3 => ?_)
  · replace k := k.1 c3
    exact w_vret rfl k
  · replace k := k.2 c3
    refine w_aload_n (q := 11) rfl rfl rfl ?_
    refine w_iload_n (q := 12) rfl rfl rfl ?_
    refine w_iload_n (q := 13) rfl rfl rfl ?_
    obtain ⟨h4, k⟩ := k
    refine w_iast (q := 14) (n := 10) rfl rfl rfl rfl rfl h4 ?_
    refine w_iinc (q := 17) (L' := [some (.ref 80), some (w_i l1), some (w_i (l2 + 1)), some (w_i l3)]) (M' := []) rfl rfl rfl rfl rfl rfl ?_
    refine w_goto (t := 5) rfl rfl ?_
    exact k
theorem f295_80 {xs : Nat → Int32} {xl : Nat} {I J : w_I} {b : Bool} {Q : Option Value → w_I → w_I → Bool → Prop} {v : Int} (k : ∀ I', (∀ a, a ≠ 80 → I' a = I a) → (∀ i, 0 ≤ i → i < 10 → I' 80 i = v) → Q none I' J b) : w_C xs xl 295 [.ref 80, w_i v] I J b Q := by
  refine e295_80 (b295_0_80 ?_)
  have loop : ∀ (m : Nat) (l2 : Int) (I1 : w_I), l2 + m = 10 → 0 ≤ l2 → (∀ a, a ≠ 80 → I1 a = I a) → (∀ i, 0 ≤ i → i < l2 → I1 80 i = v) → w_T xs xl 295 5 [some (.ref 80), some (w_i v), some (w_i l2), some (w_i 10)] [] [] I1 J b Q := by
    intro m
    induction m with
    | zero =>
      intro l2 I1 h0 h1 h2 h3
      refine b295_5_80 ?_
      repeat' (first | apply And.intro | intro)
      all_goals (try first | omega | contradiction)
      exact k I1 h2 (fun i a1 a2 => h3 i a1 (by omega))
    | succ m ih =>
      intro l2 I1 h0 h1 h2 h3
      refine b295_5_80 ?_
      repeat' (first | apply And.intro | intro)
      all_goals (try first | omega | contradiction)
      refine ih (l2 + 1) _ (by omega) (by omega) (fun a ha => by rw [w_Ua ha]; exact h2 a ha) (fun i a1 a2 => ?_)
      rw [w_Ug, if_pos rfl]
      split
      · rfl
      · exact h3 i a1 (by omega)
  exact loop 10 0 I (by omega) (by omega) (fun _ _ => rfl) (fun i a1 a2 => by omega)
theorem e295_82 {xs : Nat → Int32} {xl : Nat} {I J : w_I} {b : Bool} {Q : Option Value → w_I → w_I → Bool → Prop} {a1 : Int} (t : w_T xs xl 295 0 [some (.ref 82), some (w_i a1), none, none] [] [] I J b Q) : w_C xs xl 295 [.ref 82, w_i a1] I J b Q := w_en rfl t
theorem b295_0_82 {xs : Nat → Int32} {xl : Nat} {I J : w_I} {b : Bool} {Q : Option Value → w_I → w_I → Bool → Prop} {a1 : Int} (k : w_T xs xl 295 5 [some (.ref 82), some (w_i a1), some (w_i 0), some (w_i 30)] [] [] I J b Q) : w_T xs xl 295 0 [some (.ref 82), some (w_i a1), none, none] [] [] I J b Q := by
  refine w_iconst (q := 1) rfl rfl ?_
  refine w_istore_n (q := 2) (L' := [some (.ref 82), some (w_i a1), some (w_i 0), none]) (M' := []) rfl rfl rfl rfl rfl ?_
  refine w_aload_n (q := 3) rfl rfl rfl ?_
  refine w_alen (q := 4) (n := 30) rfl rfl rfl rfl rfl rfl ?_
  refine w_istore_n (q := 5) (L' := [some (.ref 82), some (w_i a1), some (w_i 0), some (w_i 30)]) (M' := []) rfl rfl rfl rfl rfl ?_
  exact k
theorem b295_5_82 {xs : Nat → Int32} {xl : Nat} {I J : w_I} {b : Bool} {Q : Option Value → w_I → w_I → Bool → Prop} {l1 l2 l3 : Int} (k : ((-2147483648 ≤ l2 ∧ l2 < 2147483648) ∧ (-2147483648 ≤ l3 ∧ l3 < 2147483648) ∧ ((l3 ≤ l2 → Q none I J b) ∧ (¬ l3 ≤ l2 → ((0 ≤ l2 ∧ l2 < 30) ∧ w_T xs xl 295 5 [some (.ref 82), some (w_i l1), some (w_i (l2 + 1)), some (w_i l3)] [] [] (w_U I 82 l2 l1) J b Q))))) : w_T xs xl 295 5 [some (.ref 82), some (w_i l1), some (w_i l2), some (w_i l3)] [] [] I J b Q := by
  refine w_iload_n (q := 6) rfl rfl rfl ?_
  refine w_iload_n (q := 7) rfl rfl rfl ?_
  obtain ⟨h1, h2, k⟩ := k
  refine w_cge (t := 20) (q := 10) rfl rfl rfl h1 h2 (fun c3 => ?_) (fun c3 => ?_)
  · replace k := k.1 c3
    exact w_vret rfl k
  · replace k := k.2 c3
    refine w_aload_n (q := 11) rfl rfl rfl ?_
    refine w_iload_n (q := 12) rfl rfl rfl ?_
    refine w_iload_n (q := 13) rfl rfl rfl ?_
    obtain ⟨h4, k⟩ := k
    refine w_iast (q := 14) (n := 30) rfl rfl rfl rfl rfl h4 ?_
    refine w_iinc (q := 17) (L' := [some (.ref 82), some (w_i l1), some (w_i (l2 + 1)), some (w_i l3)]) (M' := []) rfl rfl rfl rfl rfl rfl ?_
    refine w_goto (t := 5) rfl rfl ?_
    exact k
theorem f295_82 {xs : Nat → Int32} {xl : Nat} {I J : w_I} {b : Bool} {Q : Option Value → w_I → w_I → Bool → Prop} {v : Int} (k : ∀ I', (∀ a, a ≠ 82 → I' a = I a) → (∀ i, 0 ≤ i → i < 30 → I' 82 i = v) → Q none I' J b) : w_C xs xl 295 [.ref 82, w_i v] I J b Q := by
  refine e295_82 (b295_0_82 ?_)
  have loop : ∀ (m : Nat) (l2 : Int) (I1 : w_I), l2 + m = 30 → 0 ≤ l2 → (∀ a, a ≠ 82 → I1 a = I a) → (∀ i, 0 ≤ i → i < l2 → I1 82 i = v) → w_T xs xl 295 5 [some (.ref 82), some (w_i v), some (w_i l2), some (w_i 30)] [] [] I1 J b Q := by
    intro m
    induction m with
    | zero =>
      intro l2 I1 h0 h1 h2 h3
      refine b295_5_82 ?_
      repeat' (first | apply And.intro | intro)
      all_goals (try first | omega | contradiction)
      exact k I1 h2 (fun i a1 a2 => h3 i a1 (by omega))
    | succ m ih =>
      intro l2 I1 h0 h1 h2 h3
      refine b295_5_82 ?_
      repeat' (first | apply And.intro | intro)
      all_goals (try first | omega | contradiction)
      refine ih (l2 + 1) _ (by omega) (by omega) (fun a ha => by rw [w_Ua ha]; exact h2 a ha) (fun i a1 a2 => ?_)
      rw [w_Ug, if_pos rfl]
      split
      · rfl
      · exact h3 i a1 (by omega)
  exact loop 30 0 I (by omega) (by omega) (fun _ _ => rfl) (fun i a1 a2 => by omega)
theorem e295_86 {xs : Nat → Int32} {xl : Nat} {I J : w_I} {b : Bool} {Q : Option Value → w_I → w_I → Bool → Prop} {a1 : Int} (t : w_T xs xl 295 0 [some (.ref 86), some (w_i a1), none, none] [] [] I J b Q) : w_C xs xl 295 [.ref 86, w_i a1] I J b Q := w_en rfl t
theorem b295_0_86 {xs : Nat → Int32} {xl : Nat} {I J : w_I} {b : Bool} {Q : Option Value → w_I → w_I → Bool → Prop} {a1 : Int} (k : w_T xs xl 295 5 [some (.ref 86), some (w_i a1), some (w_i 0), some (w_i 25)] [] [] I J b Q) : w_T xs xl 295 0 [some (.ref 86), some (w_i a1), none, none] [] [] I J b Q := by
  refine w_iconst (q := 1) rfl rfl ?_
  refine w_istore_n (q := 2) (L' := [some (.ref 86), some (w_i a1), some (w_i 0), none]) (M' := []) rfl rfl rfl rfl rfl ?_
  refine w_aload_n (q := 3) rfl rfl rfl ?_
  refine w_alen (q := 4) (n := 25) rfl rfl rfl rfl rfl rfl ?_
  refine w_istore_n (q := 5) (L' := [some (.ref 86), some (w_i a1), some (w_i 0), some (w_i 25)]) (M' := []) rfl rfl rfl rfl rfl ?_
  exact k
theorem b295_5_86 {xs : Nat → Int32} {xl : Nat} {I J : w_I} {b : Bool} {Q : Option Value → w_I → w_I → Bool → Prop} {l1 l2 l3 : Int} (k : ((-2147483648 ≤ l2 ∧ l2 < 2147483648) ∧ (-2147483648 ≤ l3 ∧ l3 < 2147483648) ∧ ((l3 ≤ l2 → Q none I J b) ∧ (¬ l3 ≤ l2 → ((0 ≤ l2 ∧ l2 < 25) ∧ w_T xs xl 295 5 [some (.ref 86), some (w_i l1), some (w_i (l2 + 1)), some (w_i l3)] [] [] (w_U I 86 l2 l1) J b Q))))) : w_T xs xl 295 5 [some (.ref 86), some (w_i l1), some (w_i l2), some (w_i l3)] [] [] I J b Q := by
  refine w_iload_n (q := 6) rfl rfl rfl ?_
  refine w_iload_n (q := 7) rfl rfl rfl ?_
  obtain ⟨h1, h2, k⟩ := k
  refine w_cge (t := 20) (q := 10) rfl rfl rfl h1 h2 (fun c3 => ?_) (fun c3 => ?_)
  · replace k := k.1 c3
    exact w_vret rfl k
  · replace k := k.2 c3
    refine w_aload_n (q := 11) rfl rfl rfl ?_
    refine w_iload_n (q := 12) rfl rfl rfl ?_
    refine w_iload_n (q := 13) rfl rfl rfl ?_
    obtain ⟨h4, k⟩ := k
    refine w_iast (q := 14) (n := 25) rfl rfl rfl rfl rfl h4 ?_
    refine w_iinc (q := 17) (L' := [some (.ref 86), some (w_i l1), some (w_i (l2 + 1)), some (w_i l3)]) (M' := []) rfl rfl rfl rfl rfl rfl ?_
    refine w_goto (t := 5) rfl rfl ?_
    exact k
theorem f295_86 {xs : Nat → Int32} {xl : Nat} {I J : w_I} {b : Bool} {Q : Option Value → w_I → w_I → Bool → Prop} {v : Int} (k : ∀ I', (∀ a, a ≠ 86 → I' a = I a) → (∀ i, 0 ≤ i → i < 25 → I' 86 i = v) → Q none I' J b) : w_C xs xl 295 [.ref 86, w_i v] I J b Q := by
  refine e295_86 (b295_0_86 ?_)
  have loop : ∀ (m : Nat) (l2 : Int) (I1 : w_I), l2 + m = 25 → 0 ≤ l2 → (∀ a, a ≠ 86 → I1 a = I a) → (∀ i, 0 ≤ i → i < l2 → I1 86 i = v) → w_T xs xl 295 5 [some (.ref 86), some (w_i v), some (w_i l2), some (w_i 25)] [] [] I1 J b Q := by
    intro m
    induction m with
    | zero =>
      intro l2 I1 h0 h1 h2 h3
      refine b295_5_86 ?_
      repeat' (first | apply And.intro | intro)
      all_goals (try first | omega | contradiction)
      exact k I1 h2 (fun i a1 a2 => h3 i a1 (by omega))
    | succ m ih =>
      intro l2 I1 h0 h1 h2 h3
      refine b295_5_86 ?_
      repeat' (first | apply And.intro | intro)
      all_goals (try first | omega | contradiction)
      refine ih (l2 + 1) _ (by omega) (by omega) (fun a ha => by rw [w_Ua ha]; exact h2 a ha) (fun i a1 a2 => ?_)
      rw [w_Ug, if_pos rfl]
      split
      · rfl
      · exact h3 i a1 (by omega)
  exact loop 25 0 I (by omega) (by omega) (fun _ _ => rfl) (fun i a1 a2 => by omega)
theorem e295_90 {xs : Nat → Int32} {xl : Nat} {I J : w_I} {b : Bool} {Q : Option Value → w_I → w_I → Bool → Prop} {a1 : Int} (t : w_T xs xl 295 0 [some (.ref 90), some (w_i a1), none, none] [] [] I J b Q) : w_C xs xl 295 [.ref 90, w_i a1] I J b Q := w_en rfl t
theorem b295_0_90 {xs : Nat → Int32} {xl : Nat} {I J : w_I} {b : Bool} {Q : Option Value → w_I → w_I → Bool → Prop} {a1 : Int} (k : w_T xs xl 295 5 [some (.ref 90), some (w_i a1), some (w_i 0), some (w_i 25)] [] [] I J b Q) : w_T xs xl 295 0 [some (.ref 90), some (w_i a1), none, none] [] [] I J b Q := by
  refine w_iconst (q := 1) rfl rfl ?_
  refine w_istore_n (q := 2) (L' := [some (.ref 90), some (w_i a1), some (w_i 0), none]) (M' := []) rfl rfl rfl rfl rfl ?_
  refine w_aload_n (q := 3) rfl rfl rfl ?_
  refine w_alen (q := 4) (n := 25) rfl rfl rfl rfl rfl rfl ?_
  refine w_istore_n (q := 5) (L' := [some (.ref 90), some (w_i a1), some (w_i 0), some (w_i 25)]) (M' := []) rfl rfl rfl rfl rfl ?_
  exact k
theorem b295_5_90 {xs : Nat → Int32} {xl : Nat} {I J : w_I} {b : Bool} {Q : Option Value → w_I → w_I → Bool → Prop} {l1 l2 l3 : Int} (k : ((-2147483648 ≤ l2 ∧ l2 < 2147483648) ∧ (-2147483648 ≤ l3 ∧ l3 < 2147483648) ∧ ((l3 ≤ l2 → Q none I J b) ∧ (¬ l3 ≤ l2 → ((0 ≤ l2 ∧ l2 < 25) ∧ w_T xs xl 295 5 [some (.ref 90), some (w_i l1), some (w_i (l2 + 1)), some (w_i l3)] [] [] (w_U I 90 l2 l1) J b Q))))) : w_T xs xl 295 5 [some (.ref 90), some (w_i l1), some (w_i l2), some (w_i l3)] [] [] I J b Q := by
  refine w_iload_n (q := 6) rfl rfl rfl ?_
  refine w_iload_n (q := 7) rfl rfl rfl ?_
  obtain ⟨h1, h2, k⟩ := k
  refine w_cge (t := 20) (q := 10) rfl rfl rfl h1 h2 (fun c3 => ?_) (fun c3 => ?_)
  · replace k := k.1 c3
    exact w_vret rfl k
  · replace k := k.2 c3
    refine w_aload_n (q := 11) rfl rfl rfl ?_
    refine w_iload_n (q := 12) rfl rfl rfl ?_
    refine w_iload_n (q := 13) rfl rfl rfl ?_
    obtain ⟨h4, k⟩ := k
    refine w_iast (q := 14) (n := 25) rfl rfl rfl rfl rfl h4 ?_
    refine w_iinc (q := 17) (L' := [some (.ref 90), some (w_i l1), some (w_i (l2 + 1)), some (w_i l3)]) (M' := []) rfl rfl rfl rfl rfl rfl ?_
    refine w_goto (t := 5) rfl rfl ?_
    exact k
theorem f295_90 {xs : Nat → Int32} {xl : Nat} {I J : w_I} {b : Bool} {Q : Option Value → w_I → w_I → Bool → Prop} {v : Int} (k : ∀ I', (∀ a, a ≠ 90 → I' a = I a) → (∀ i, 0 ≤ i → i < 25 → I' 90 i = v) → Q none I' J b) : w_C xs xl 295 [.ref 90, w_i v] I J b Q := by
  refine e295_90 (b295_0_90 ?_)
  have loop : ∀ (m : Nat) (l2 : Int) (I1 : w_I), l2 + m = 25 → 0 ≤ l2 → (∀ a, a ≠ 90 → I1 a = I a) → (∀ i, 0 ≤ i → i < l2 → I1 90 i = v) → w_T xs xl 295 5 [some (.ref 90), some (w_i v), some (w_i l2), some (w_i 25)] [] [] I1 J b Q := by
    intro m
    induction m with
    | zero =>
      intro l2 I1 h0 h1 h2 h3
      refine b295_5_90 ?_
      repeat' (first | apply And.intro | intro)
      all_goals (try first | omega | contradiction)
      exact k I1 h2 (fun i a1 a2 => h3 i a1 (by omega))
    | succ m ih =>
      intro l2 I1 h0 h1 h2 h3
      refine b295_5_90 ?_
      repeat' (first | apply And.intro | intro)
      all_goals (try first | omega | contradiction)
      refine ih (l2 + 1) _ (by omega) (by omega) (fun a ha => by rw [w_Ua ha]; exact h2 a ha) (fun i a1 a2 => ?_)
      rw [w_Ug, if_pos rfl]
      split
      · rfl
      · exact h3 i a1 (by omega)
  exact loop 25 0 I (by omega) (by omega) (fun _ _ => rfl) (fun i a1 a2 => by omega)
theorem e295_92 {xs : Nat → Int32} {xl : Nat} {I J : w_I} {b : Bool} {Q : Option Value → w_I → w_I → Bool → Prop} {a1 : Int} (t : w_T xs xl 295 0 [some (.ref 92), some (w_i a1), none, none] [] [] I J b Q) : w_C xs xl 295 [.ref 92, w_i a1] I J b Q := w_en rfl t
theorem b295_0_92 {xs : Nat → Int32} {xl : Nat} {I J : w_I} {b : Bool} {Q : Option Value → w_I → w_I → Bool → Prop} {a1 : Int} (k : w_T xs xl 295 5 [some (.ref 92), some (w_i a1), some (w_i 0), some (w_i 25)] [] [] I J b Q) : w_T xs xl 295 0 [some (.ref 92), some (w_i a1), none, none] [] [] I J b Q := by
  refine w_iconst (q := 1) rfl rfl ?_
  refine w_istore_n (q := 2) (L' := [some (.ref 92), some (w_i a1), some (w_i 0), none]) (M' := []) rfl rfl rfl rfl rfl ?_
  refine w_aload_n (q := 3) rfl rfl rfl ?_
  refine w_alen (q := 4) (n := 25) rfl rfl rfl rfl rfl rfl ?_
  refine w_istore_n (q := 5) (L' := [some (.ref 92), some (w_i a1), some (w_i 0), some (w_i 25)]) (M' := []) rfl rfl rfl rfl rfl ?_
  exact k
theorem b295_5_92 {xs : Nat → Int32} {xl : Nat} {I J : w_I} {b : Bool} {Q : Option Value → w_I → w_I → Bool → Prop} {l1 l2 l3 : Int} (k : ((-2147483648 ≤ l2 ∧ l2 < 2147483648) ∧ (-2147483648 ≤ l3 ∧ l3 < 2147483648) ∧ ((l3 ≤ l2 → Q none I J b) ∧ (¬ l3 ≤ l2 → ((0 ≤ l2 ∧ l2 < 25) ∧ w_T xs xl 295 5 [some (.ref 92), some (w_i l1), some (w_i (l2 + 1)), some (w_i l3)] [] [] (w_U I 92 l2 l1) J b Q))))) : w_T xs xl 295 5 [some (.ref 92), some (w_i l1), some (w_i l2), some (w_i l3)] [] [] I J b Q := by
  refine w_iload_n (q := 6) rfl rfl rfl ?_
  refine w_iload_n (q := 7) rfl rfl rfl ?_
  obtain ⟨h1, h2, k⟩ := k
  refine w_cge (t := 20) (q := 10) rfl rfl rfl h1 h2 (fun c3 => ?_) (fun c3 => ?_)
  · replace k := k.1 c3
    exact w_vret rfl k
  · replace k := k.2 c3
    refine w_aload_n (q := 11) rfl rfl rfl ?_
    refine w_iload_n (q := 12) rfl rfl rfl ?_
    refine w_iload_n (q := 13) rfl rfl rfl ?_
    obtain ⟨h4, k⟩ := k
    refine w_iast (q := 14) (n := 25) rfl rfl rfl rfl rfl h4 ?_
    refine w_iinc (q := 17) (L' := [some (.ref 92), some (w_i l1), some (w_i (l2 + 1)), some (w_i l3)]) (M' := []) rfl rfl rfl rfl rfl rfl ?_
    refine w_goto (t := 5) rfl rfl ?_
    exact k
theorem f295_92 {xs : Nat → Int32} {xl : Nat} {I J : w_I} {b : Bool} {Q : Option Value → w_I → w_I → Bool → Prop} {v : Int} (k : ∀ I', (∀ a, a ≠ 92 → I' a = I a) → (∀ i, 0 ≤ i → i < 25 → I' 92 i = v) → Q none I' J b) : w_C xs xl 295 [.ref 92, w_i v] I J b Q := by
  refine e295_92 (b295_0_92 ?_)
  have loop : ∀ (m : Nat) (l2 : Int) (I1 : w_I), l2 + m = 25 → 0 ≤ l2 → (∀ a, a ≠ 92 → I1 a = I a) → (∀ i, 0 ≤ i → i < l2 → I1 92 i = v) → w_T xs xl 295 5 [some (.ref 92), some (w_i v), some (w_i l2), some (w_i 25)] [] [] I1 J b Q := by
    intro m
    induction m with
    | zero =>
      intro l2 I1 h0 h1 h2 h3
      refine b295_5_92 ?_
      repeat' (first | apply And.intro | intro)
      all_goals (try first | omega | contradiction)
      exact k I1 h2 (fun i a1 a2 => h3 i a1 (by omega))
    | succ m ih =>
      intro l2 I1 h0 h1 h2 h3
      refine b295_5_92 ?_
      repeat' (first | apply And.intro | intro)
      all_goals (try first | omega | contradiction)
      refine ih (l2 + 1) _ (by omega) (by omega) (fun a ha => by rw [w_Ua ha]; exact h2 a ha) (fun i a1 a2 => ?_)
      rw [w_Ug, if_pos rfl]
      split
      · rfl
      · exact h3 i a1 (by omega)
  exact loop 25 0 I (by omega) (by omega) (fun _ _ => rfl) (fun i a1 a2 => by omega)
theorem e295_97 {xs : Nat → Int32} {xl : Nat} {I J : w_I} {b : Bool} {Q : Option Value → w_I → w_I → Bool → Prop} {a1 : Int} (t : w_T xs xl 295 0 [some (.ref 97), some (w_i a1), none, none] [] [] I J b Q) : w_C xs xl 295 [.ref 97, w_i a1] I J b Q := w_en rfl t
theorem b295_0_97 {xs : Nat → Int32} {xl : Nat} {I J : w_I} {b : Bool} {Q : Option Value → w_I → w_I → Bool → Prop} {a1 : Int} (k : w_T xs xl 295 5 [some (.ref 97), some (w_i a1), some (w_i 0), some (w_i 3)] [] [] I J b Q) : w_T xs xl 295 0 [some (.ref 97), some (w_i a1), none, none] [] [] I J b Q := by
  refine w_iconst (q := 1) rfl rfl ?_
  refine w_istore_n (q := 2) (L' := [some (.ref 97), some (w_i a1), some (w_i 0), none]) (M' := []) rfl rfl rfl rfl rfl ?_
  refine w_aload_n (q := 3) rfl rfl rfl ?_
  refine w_alen (q := 4) (n := 3) rfl rfl rfl rfl rfl rfl ?_
  refine w_istore_n (q := 5) (L' := [some (.ref 97), some (w_i a1), some (w_i 0), some (w_i 3)]) (M' := []) rfl rfl rfl rfl rfl ?_
  exact k
theorem b295_5_97 {xs : Nat → Int32} {xl : Nat} {I J : w_I} {b : Bool} {Q : Option Value → w_I → w_I → Bool → Prop} {l1 l2 l3 : Int} (k : ((-2147483648 ≤ l2 ∧ l2 < 2147483648) ∧ (-2147483648 ≤ l3 ∧ l3 < 2147483648) ∧ ((l3 ≤ l2 → Q none I J b) ∧ (¬ l3 ≤ l2 → ((0 ≤ l2 ∧ l2 < 3) ∧ w_T xs xl 295 5 [some (.ref 97), some (w_i l1), some (w_i (l2 + 1)), some (w_i l3)] [] [] (w_U I 97 l2 l1) J b Q))))) : w_T xs xl 295 5 [some (.ref 97), some (w_i l1), some (w_i l2), some (w_i l3)] [] [] I J b Q := by
  refine w_iload_n (q := 6) rfl rfl rfl ?_
  refine w_iload_n (q := 7) rfl rfl rfl ?_
  obtain ⟨h1, h2, k⟩ := k
  refine w_cge (t := 20) (q := 10) rfl rfl rfl h1 h2 (fun c3 => ?_) (fun c3 => ?_)
  · replace k := k.1 c3
    exact w_vret rfl k
  · replace k := k.2 c3
    refine w_aload_n (q := 11) rfl rfl rfl ?_
    refine w_iload_n (q := 12) rfl rfl rfl ?_
    refine w_iload_n (q := 13) rfl rfl rfl ?_
    obtain ⟨h4, k⟩ := k
    refine w_iast (q := 14) (n := 3) rfl rfl rfl rfl rfl h4 ?_
    refine w_iinc (q := 17) (L' := [some (.ref 97), some (w_i l1), some (w_i (l2 + 1)), some (w_i l3)]) (M' := []) rfl rfl rfl rfl rfl rfl ?_
    refine w_goto (t := 5) rfl rfl ?_
    exact k
theorem f295_97 {xs : Nat → Int32} {xl : Nat} {I J : w_I} {b : Bool} {Q : Option Value → w_I → w_I → Bool → Prop} {v : Int} (k : ∀ I', (∀ a, a ≠ 97 → I' a = I a) → (∀ i, 0 ≤ i → i < 3 → I' 97 i = v) → Q none I' J b) : w_C xs xl 295 [.ref 97, w_i v] I J b Q := by
  refine e295_97 (b295_0_97 ?_)
  have loop : ∀ (m : Nat) (l2 : Int) (I1 : w_I), l2 + m = 3 → 0 ≤ l2 → (∀ a, a ≠ 97 → I1 a = I a) → (∀ i, 0 ≤ i → i < l2 → I1 97 i = v) → w_T xs xl 295 5 [some (.ref 97), some (w_i v), some (w_i l2), some (w_i 3)] [] [] I1 J b Q := by
    intro m
    induction m with
    | zero =>
      intro l2 I1 h0 h1 h2 h3
      refine b295_5_97 ?_
      repeat' (first | apply And.intro | intro)
      all_goals (try first | omega | contradiction)
      exact k I1 h2 (fun i a1 a2 => h3 i a1 (by omega))
    | succ m ih =>
      intro l2 I1 h0 h1 h2 h3
      refine b295_5_97 ?_
      repeat' (first | apply And.intro | intro)
      all_goals (try first | omega | contradiction)
      refine ih (l2 + 1) _ (by omega) (by omega) (fun a ha => by rw [w_Ua ha]; exact h2 a ha) (fun i a1 a2 => ?_)
      rw [w_Ug, if_pos rfl]
      split
      · rfl
      · exact h3 i a1 (by omega)
  exact loop 3 0 I (by omega) (by omega) (fun _ _ => rfl) (fun i a1 a2 => by omega)
theorem e295_98 {xs : Nat → Int32} {xl : Nat} {I J : w_I} {b : Bool} {Q : Option Value → w_I → w_I → Bool → Prop} {a1 : Int} (t : w_T xs xl 295 0 [some (.ref 98), some (w_i a1), none, none] [] [] I J b Q) : w_C xs xl 295 [.ref 98, w_i a1] I J b Q := w_en rfl t
theorem b295_0_98 {xs : Nat → Int32} {xl : Nat} {I J : w_I} {b : Bool} {Q : Option Value → w_I → w_I → Bool → Prop} {a1 : Int} (k : w_T xs xl 295 5 [some (.ref 98), some (w_i a1), some (w_i 0), some (w_i 169)] [] [] I J b Q) : w_T xs xl 295 0 [some (.ref 98), some (w_i a1), none, none] [] [] I J b Q := by
  refine w_iconst (q := 1) rfl rfl ?_
  refine w_istore_n (q := 2) (L' := [some (.ref 98), some (w_i a1), some (w_i 0), none]) (M' := []) rfl rfl rfl rfl rfl ?_
  refine w_aload_n (q := 3) rfl rfl rfl ?_
  refine w_alen (q := 4) (n := 169) rfl rfl rfl rfl rfl rfl ?_
  refine w_istore_n (q := 5) (L' := [some (.ref 98), some (w_i a1), some (w_i 0), some (w_i 169)]) (M' := []) rfl rfl rfl rfl rfl ?_
  exact k
theorem b295_5_98 {xs : Nat → Int32} {xl : Nat} {I J : w_I} {b : Bool} {Q : Option Value → w_I → w_I → Bool → Prop} {l1 l2 l3 : Int} (k : ((-2147483648 ≤ l2 ∧ l2 < 2147483648) ∧ (-2147483648 ≤ l3 ∧ l3 < 2147483648) ∧ ((l3 ≤ l2 → Q none I J b) ∧ (¬ l3 ≤ l2 → ((0 ≤ l2 ∧ l2 < 169) ∧ w_T xs xl 295 5 [some (.ref 98), some (w_i l1), some (w_i (l2 + 1)), some (w_i l3)] [] [] (w_U I 98 l2 l1) J b Q))))) : w_T xs xl 295 5 [some (.ref 98), some (w_i l1), some (w_i l2), some (w_i l3)] [] [] I J b Q := by
  refine w_iload_n (q := 6) rfl rfl rfl ?_
  refine w_iload_n (q := 7) rfl rfl rfl ?_
  obtain ⟨h1, h2, k⟩ := k
  refine w_cge (t := 20) (q := 10) rfl rfl rfl h1 h2 (fun c3 => ?_) (fun c3 => ?_)
  · replace k := k.1 c3
    exact w_vret rfl k
  · replace k := k.2 c3
    refine w_aload_n (q := 11) rfl rfl rfl ?_
    refine w_iload_n (q := 12) rfl rfl rfl ?_
    refine w_iload_n (q := 13) rfl rfl rfl ?_
    obtain ⟨h4, k⟩ := k
    refine w_iast (q := 14) (n := 169) rfl rfl rfl rfl rfl h4 ?_
    refine w_iinc (q := 17) (L' := [some (.ref 98), some (w_i l1), some (w_i (l2 + 1)), some (w_i l3)]) (M' := []) rfl rfl rfl rfl rfl rfl ?_
    refine w_goto (t := 5) rfl rfl ?_
    exact k
theorem f295_98 {xs : Nat → Int32} {xl : Nat} {I J : w_I} {b : Bool} {Q : Option Value → w_I → w_I → Bool → Prop} {v : Int} (k : ∀ I', (∀ a, a ≠ 98 → I' a = I a) → (∀ i, 0 ≤ i → i < 169 → I' 98 i = v) → Q none I' J b) : w_C xs xl 295 [.ref 98, w_i v] I J b Q := by
  refine e295_98 (b295_0_98 ?_)
  have loop : ∀ (m : Nat) (l2 : Int) (I1 : w_I), l2 + m = 169 → 0 ≤ l2 → (∀ a, a ≠ 98 → I1 a = I a) → (∀ i, 0 ≤ i → i < l2 → I1 98 i = v) → w_T xs xl 295 5 [some (.ref 98), some (w_i v), some (w_i l2), some (w_i 169)] [] [] I1 J b Q := by
    intro m
    induction m with
    | zero =>
      intro l2 I1 h0 h1 h2 h3
      refine b295_5_98 ?_
      repeat' (first | apply And.intro | intro)
      all_goals (try first | omega | contradiction)
      exact k I1 h2 (fun i a1 a2 => h3 i a1 (by omega))
    | succ m ih =>
      intro l2 I1 h0 h1 h2 h3
      refine b295_5_98 ?_
      repeat' (first | apply And.intro | intro)
      all_goals (try first | omega | contradiction)
      refine ih (l2 + 1) _ (by omega) (by omega) (fun a ha => by rw [w_Ua ha]; exact h2 a ha) (fun i a1 a2 => ?_)
      rw [w_Ug, if_pos rfl]
      split
      · rfl
      · exact h3 i a1 (by omega)
  exact loop 169 0 I (by omega) (by omega) (fun _ _ => rfl) (fun i a1 a2 => by omega)
theorem e295_99 {xs : Nat → Int32} {xl : Nat} {I J : w_I} {b : Bool} {Q : Option Value → w_I → w_I → Bool → Prop} {a1 : Int} (t : w_T xs xl 295 0 [some (.ref 99), some (w_i a1), none, none] [] [] I J b Q) : w_C xs xl 295 [.ref 99, w_i a1] I J b Q := w_en rfl t
theorem b295_0_99 {xs : Nat → Int32} {xl : Nat} {I J : w_I} {b : Bool} {Q : Option Value → w_I → w_I → Bool → Prop} {a1 : Int} (k : w_T xs xl 295 5 [some (.ref 99), some (w_i a1), some (w_i 0), some (w_i 169)] [] [] I J b Q) : w_T xs xl 295 0 [some (.ref 99), some (w_i a1), none, none] [] [] I J b Q := by
  refine w_iconst (q := 1) rfl rfl ?_
  refine w_istore_n (q := 2) (L' := [some (.ref 99), some (w_i a1), some (w_i 0), none]) (M' := []) rfl rfl rfl rfl rfl ?_
  refine w_aload_n (q := 3) rfl rfl rfl ?_
  refine w_alen (q := 4) (n := 169) rfl rfl rfl rfl rfl rfl ?_
  refine w_istore_n (q := 5) (L' := [some (.ref 99), some (w_i a1), some (w_i 0), some (w_i 169)]) (M' := []) rfl rfl rfl rfl rfl ?_
  exact k
theorem b295_5_99 {xs : Nat → Int32} {xl : Nat} {I J : w_I} {b : Bool} {Q : Option Value → w_I → w_I → Bool → Prop} {l1 l2 l3 : Int} (k : ((-2147483648 ≤ l2 ∧ l2 < 2147483648) ∧ (-2147483648 ≤ l3 ∧ l3 < 2147483648) ∧ ((l3 ≤ l2 → Q none I J b) ∧ (¬ l3 ≤ l2 → ((0 ≤ l2 ∧ l2 < 169) ∧ w_T xs xl 295 5 [some (.ref 99), some (w_i l1), some (w_i (l2 + 1)), some (w_i l3)] [] [] (w_U I 99 l2 l1) J b Q))))) : w_T xs xl 295 5 [some (.ref 99), some (w_i l1), some (w_i l2), some (w_i l3)] [] [] I J b Q := by
  refine w_iload_n (q := 6) rfl rfl rfl ?_
  refine w_iload_n (q := 7) rfl rfl rfl ?_
  obtain ⟨h1, h2, k⟩ := k
  refine w_cge (t := 20) (q := 10) rfl rfl rfl h1 h2 (fun c3 => ?_) (fun c3 => ?_)
  · replace k := k.1 c3
    exact w_vret rfl k
  · replace k := k.2 c3
    refine w_aload_n (q := 11) rfl rfl rfl ?_
    refine w_iload_n (q := 12) rfl rfl rfl ?_
    refine w_iload_n (q := 13) rfl rfl rfl ?_
    obtain ⟨h4, k⟩ := k
    refine w_iast (q := 14) (n := 169) rfl rfl rfl rfl rfl h4 ?_
    refine w_iinc (q := 17) (L' := [some (.ref 99), some (w_i l1), some (w_i (l2 + 1)), some (w_i l3)]) (M' := []) rfl rfl rfl rfl rfl rfl ?_
    refine w_goto (t := 5) rfl rfl ?_
    exact k
theorem f295_99 {xs : Nat → Int32} {xl : Nat} {I J : w_I} {b : Bool} {Q : Option Value → w_I → w_I → Bool → Prop} {v : Int} (k : ∀ I', (∀ a, a ≠ 99 → I' a = I a) → (∀ i, 0 ≤ i → i < 169 → I' 99 i = v) → Q none I' J b) : w_C xs xl 295 [.ref 99, w_i v] I J b Q := by
  refine e295_99 (b295_0_99 ?_)
  have loop : ∀ (m : Nat) (l2 : Int) (I1 : w_I), l2 + m = 169 → 0 ≤ l2 → (∀ a, a ≠ 99 → I1 a = I a) → (∀ i, 0 ≤ i → i < l2 → I1 99 i = v) → w_T xs xl 295 5 [some (.ref 99), some (w_i v), some (w_i l2), some (w_i 169)] [] [] I1 J b Q := by
    intro m
    induction m with
    | zero =>
      intro l2 I1 h0 h1 h2 h3
      refine b295_5_99 ?_
      repeat' (first | apply And.intro | intro)
      all_goals (try first | omega | contradiction)
      exact k I1 h2 (fun i a1 a2 => h3 i a1 (by omega))
    | succ m ih =>
      intro l2 I1 h0 h1 h2 h3
      refine b295_5_99 ?_
      repeat' (first | apply And.intro | intro)
      all_goals (try first | omega | contradiction)
      refine ih (l2 + 1) _ (by omega) (by omega) (fun a ha => by rw [w_Ua ha]; exact h2 a ha) (fun i a1 a2 => ?_)
      rw [w_Ug, if_pos rfl]
      split
      · rfl
      · exact h3 i a1 (by omega)
  exact loop 169 0 I (by omega) (by omega) (fun _ _ => rfl) (fun i a1 a2 => by omega)
end
