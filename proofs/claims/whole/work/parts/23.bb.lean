section
theorem e35 {xs : Nat → Int32} {xl : Nat} {I J : w_I} {b : Bool} {Q : Option Value → w_I → w_I → Bool → Prop} {a1 : Int} (t : w_T xs xl 35 0 [some (.ref 85), some (w_i a1), none] [] [] I J b Q) : w_C xs xl 35 [.ref 85, w_i a1] I J b Q := w_en rfl t
theorem b35_0 {xs : Nat → Int32} {xl : Nat} {I J : w_I} {b : Bool} {Q : Option Value → w_I → w_I → Bool → Prop} {a1 : Int} (k : w_T xs xl 35 2 [some (.ref 85), some (w_i a1), some (w_i 0)] [] [] I J b Q) : w_T xs xl 35 0 [some (.ref 85), some (w_i a1), none] [] [] I J b Q := by
  refine w_iconst (q := 1) rfl rfl ?_
  refine w_istore_n (q := 2) (L' := [some (.ref 85), some (w_i a1), some (w_i 0)]) (M' := []) rfl rfl rfl rfl rfl ?_
  exact k
theorem b35_2 {xs : Nat → Int32} {xl : Nat} {I J : w_I} {b : Bool} {Q : Option Value → w_I → w_I → Bool → Prop} {l1 l2 : Int} (k : ((-2147483648 ≤ l2 ∧ l2 < 2147483648) ∧ (-2147483648 ≤ I 78 6 ∧ I 78 6 < 2147483648) ∧ ((I 78 6 ≤ l2 → Q (some (w_i (-1))) I J b) ∧ (¬ I 78 6 ≤ l2 → ((0 ≤ l2 ∧ l2 < 25) ∧ ((-2147483648 ≤ I 84 l2 ∧ I 84 l2 < 2147483648) ∧ (-2147483648 ≤ l1 ∧ l1 < 2147483648) ∧ ((¬ I 84 l2 = l1 → w_T xs xl 35 2 [some (.ref 85), some (w_i l1), some (w_i (l2 + 1))] [] [] I J b Q) ∧ (I 84 l2 = l1 → ((0 ≤ l2 ∧ l2 < 24) ∧ Q (some (w_i (I 88 l2))) I J b))))))))) : w_T xs xl 35 2 [some (.ref 85), some (w_i l1), some (w_i l2)] [] [] I J b Q := by
  refine w_iload_n (q := 3) rfl rfl rfl ?_
  refine w_aload_n (q := 4) rfl rfl rfl ?_
  refine w_gfr (q := 7) rfl rfl rfl rfl (j := 78) rfl ?_
  refine w_gfi (q := 10) (k' := 6) (v := I 78 6) rfl rfl rfl rfl rfl rfl rfl ?_
  obtain ⟨h1, h2, k⟩ := k
  refine w_cge (t := 39) (q := 13) rfl rfl rfl h1 h2 (fun c3 => ?_) (fun c3 => ?_)
  · replace k := k.1 c3
    refine w_iconst (q := 40) rfl rfl ?_
    exact w_iret rfl rfl k
  · replace k := k.2 c3
    refine w_aload_n (q := 14) rfl rfl rfl ?_
    refine w_gfr (q := 17) rfl rfl rfl rfl (j := 78) rfl ?_
    refine w_gfr (q := 20) rfl rfl rfl rfl (j := 84) rfl ?_
    refine w_iload_n (q := 21) rfl rfl rfl ?_
    obtain ⟨h4, k⟩ := k
    refine w_iald (q := 22) (n := 25) (v := I 84 l2) rfl rfl rfl rfl rfl rfl h4 ?_
    refine w_iload_n (q := 23) rfl rfl rfl ?_
    obtain ⟨h5, h6, k⟩ := k
    refine w_cne (t := 33) (q := 26) rfl rfl rfl h5 h6 (fun c7 => ?_) (fun c7 => ?_)
    · replace k := k.1 c7
      refine w_iinc (q := 36) (L' := [some (.ref 85), some (w_i l1), some (w_i (l2 + 1))]) (M' := []) rfl rfl rfl rfl rfl rfl ?_
      refine w_goto (t := 2) rfl rfl ?_
      exact k
    · replace k := k.2 c7
      refine w_aload_n (q := 27) rfl rfl rfl ?_
      refine w_gfr (q := 30) rfl rfl rfl rfl (j := 88) rfl ?_
      refine w_iload_n (q := 31) rfl rfl rfl ?_
      obtain ⟨h8, k⟩ := k
      refine w_iald (q := 32) (n := 24) (v := I 88 l2) rfl rfl rfl rfl rfl rfl h8 ?_
      exact w_iret rfl rfl k
theorem e36 {xs : Nat → Int32} {xl : Nat} {I J : w_I} {b : Bool} {Q : Option Value → w_I → w_I → Bool → Prop} (t : w_T xs xl 36 0 [some (.ref 85), none] [] [] I J b Q) : w_C xs xl 36 [.ref 85] I J b Q := w_en rfl t
theorem b36_0 {xs : Nat → Int32} {xl : Nat} {I J : w_I} {b : Bool} {Q : Option Value → w_I → w_I → Bool → Prop} (k : w_C xs xl 3 [.ref 20] I J b (fun v Ic Jc bc => w_T xs xl 36 10 [some (.ref 85), none] [] (w_pv v []) Ic Jc bc Q)) : w_T xs xl 36 0 [some (.ref 85), none] [] [] I J b Q := by
  refine w_aload_n (q := 1) rfl rfl rfl ?_
  refine w_gfr (q := 4) rfl rfl rfl rfl (j := 78) rfl ?_
  refine w_gfr (q := 7) rfl rfl rfl rfl (j := 20) rfl ?_
  refine w_callv (q := 10) rfl rfl rfl rfl rfl rfl ?_
  exact k
theorem b36_10 {xs : Nat → Int32} {xl : Nat} {I J : w_I} {b : Bool} {Q : Option Value → w_I → w_I → Bool → Prop} {u1 : Option Value} (k : w_T xs xl 36 12 [some (.ref 85), some (w_i 0)] [] [] I J b Q) : w_T xs xl 36 10 [some (.ref 85), u1] [] [] I J b Q := by
  refine w_iconst (q := 11) rfl rfl ?_
  refine w_istore_n (q := 12) (L' := [some (.ref 85), some (w_i 0)]) (M' := []) rfl rfl rfl rfl rfl ?_
  exact k
theorem b36_12 {xs : Nat → Int32} {xl : Nat} {I J : w_I} {b : Bool} {Q : Option Value → w_I → w_I → Bool → Prop} {l1 : Int} (k : ((-2147483648 ≤ l1 ∧ l1 < 2147483648) ∧ (-2147483648 ≤ I 78 6 ∧ I 78 6 < 2147483648) ∧ ((I 78 6 ≤ l1 → Q none I J b) ∧ (¬ I 78 6 ≤ l1 → ((0 ≤ l1 ∧ l1 < 25) ∧ ((0 ≤ l1 ∧ l1 < 24) ∧ ((0 ≤ I 84 l1 ∧ I 84 l1 < 30) ∧ ((0 ≤ I 88 l1 ∧ I 88 l1 < 24) ∧ w_T xs xl 36 12 [some (.ref 85), some (w_i (l1 + 1))] [] [] (w_U (w_U I 28 (I 84 l1) (I 88 l1)) 30 (I 88 l1) (I 84 l1)) J b Q)))))))) : w_T xs xl 36 12 [some (.ref 85), some (w_i l1)] [] [] I J b Q := by
  refine w_iload_n (q := 13) rfl rfl rfl ?_
  refine w_aload_n (q := 14) rfl rfl rfl ?_
  refine w_gfr (q := 17) rfl rfl rfl rfl (j := 78) rfl ?_
  refine w_gfi (q := 20) (k' := 6) (v := I 78 6) rfl rfl rfl rfl rfl rfl rfl ?_
  obtain ⟨h1, h2, k⟩ := k
  refine w_cge (t := 81) (q := 23) rfl rfl rfl h1 h2 (fun c3 => ?_) (fun c3 => ?_)
  · replace k := k.1 c3
    exact w_vret rfl k
  · replace k := k.2 c3
    refine w_aload_n (q := 24) rfl rfl rfl ?_
    refine w_gfr (q := 27) rfl rfl rfl rfl (j := 78) rfl ?_
    refine w_gfr (q := 30) rfl rfl rfl rfl (j := 20) rfl ?_
    refine w_gfr (q := 33) rfl rfl rfl rfl (j := 28) rfl ?_
    refine w_aload_n (q := 34) rfl rfl rfl ?_
    refine w_gfr (q := 37) rfl rfl rfl rfl (j := 78) rfl ?_
    refine w_gfr (q := 40) rfl rfl rfl rfl (j := 84) rfl ?_
    refine w_iload_n (q := 41) rfl rfl rfl ?_
    obtain ⟨h4, k⟩ := k
    refine w_iald (q := 42) (n := 25) (v := I 84 l1) rfl rfl rfl rfl rfl rfl h4 ?_
    refine w_aload_n (q := 43) rfl rfl rfl ?_
    refine w_gfr (q := 46) rfl rfl rfl rfl (j := 88) rfl ?_
    refine w_iload_n (q := 47) rfl rfl rfl ?_
    obtain ⟨h5, k⟩ := k
    refine w_iald (q := 48) (n := 24) (v := I 88 l1) rfl rfl rfl rfl rfl rfl h5 ?_
    obtain ⟨h6, k⟩ := k
    refine w_iast (q := 49) (n := 30) rfl rfl rfl rfl rfl h6 ?_
    refine w_aload_n (q := 50) rfl rfl rfl ?_
    refine w_gfr (q := 53) rfl rfl rfl rfl (j := 78) rfl ?_
    refine w_gfr (q := 56) rfl rfl rfl rfl (j := 20) rfl ?_
    refine w_gfr (q := 59) rfl rfl rfl rfl (j := 30) rfl ?_
    refine w_aload_n (q := 60) rfl rfl rfl ?_
    refine w_gfr (q := 63) rfl rfl rfl rfl (j := 88) rfl ?_
    refine w_iload_n (q := 64) rfl rfl rfl ?_
    refine w_iald (q := 65) (n := 24) (v := I 88 l1) rfl rfl rfl rfl rfl rfl h5 ?_
    refine w_aload_n (q := 66) rfl rfl rfl ?_
    refine w_gfr (q := 69) rfl rfl rfl rfl (j := 78) rfl ?_
    refine w_gfr (q := 72) rfl rfl rfl rfl (j := 84) rfl ?_
    refine w_iload_n (q := 73) rfl rfl rfl ?_
    refine w_iald (q := 74) (n := 25) (v := I 84 l1) rfl rfl rfl rfl rfl rfl h4 ?_
    obtain ⟨h7, k⟩ := k
    refine w_iast (q := 75) (n := 24) rfl rfl rfl rfl rfl h7 ?_
    refine w_iinc (q := 78) (L' := [some (.ref 85), some (w_i (l1 + 1))]) (M' := []) rfl rfl rfl rfl rfl rfl ?_
    refine w_goto (t := 12) rfl rfl ?_
    exact k
theorem e38 {xs : Nat → Int32} {xl : Nat} {I J : w_I} {b : Bool} {Q : Option Value → w_I → w_I → Bool → Prop} {a1 a2 a3 : Int} (t : w_T xs xl 38 0 [some (.ref 103), some (w_i a1), some (w_i a2), some (w_i a3), none, none] [] [] I J b Q) : w_C xs xl 38 [.ref 103, w_i a1, w_i a2, w_i a3] I J b Q := w_en rfl t
theorem b38_0 {xs : Nat → Int32} {xl : Nat} {I J : w_I} {b : Bool} {Q : Option Value → w_I → w_I → Bool → Prop} {a1 a2 a3 : Int} (k : w_T xs xl 38 13 [some (.ref 103), some (w_i a1), some (w_i a2), some (w_i a3), some (w_i 0), none] [] [] (w_U (w_U I 103 2 a1) 103 3 0) J b Q) : w_T xs xl 38 0 [some (.ref 103), some (w_i a1), some (w_i a2), some (w_i a3), none, none] [] [] I J b Q := by
  refine w_aload_n (q := 1) rfl rfl rfl ?_
  refine w_iload_n (q := 2) rfl rfl rfl ?_
  refine w_pfi (q := 5) (k' := 2) rfl rfl rfl rfl ?_
  refine w_aload_n (q := 6) rfl rfl rfl ?_
  refine w_iconst (q := 7) rfl rfl ?_
  refine w_pfi (q := 10) (k' := 3) rfl rfl rfl rfl ?_
  refine w_iconst (q := 11) rfl rfl ?_
  refine w_istore (q := 13) (L' := [some (.ref 103), some (w_i a1), some (w_i a2), some (w_i a3), some (w_i 0), none]) (M' := []) rfl rfl rfl rfl rfl ?_
  exact k
theorem b38_13 {xs : Nat → Int32} {xl : Nat} {I J : w_I} {b : Bool} {Q : Option Value → w_I → w_I → Bool → Prop} {u1 u5 : Option Value} {l2 l3 l4 : Int} (k : ((-2147483648 ≤ l4 ∧ l4 < 2147483648) ∧ (-2147483648 ≤ l2 ∧ l2 < 2147483648) ∧ ((l2 ≤ l4 → Q (some (w_i (I 103 3))) I J b) ∧ (¬ l2 ≤ l4 → w_C xs xl 42 [.ref 103, w_i (200 * l4)] (w_U I 20 15 (I 20 15 + 12)) J b (fun v Ic Jc bc => w_T xs xl 38 46 [some (.ref 103), u1, some (w_i l2), some (w_i l3), some (w_i l4), u5] [] (w_pv v []) Ic Jc bc Q))))) : w_T xs xl 38 13 [some (.ref 103), u1, some (w_i l2), some (w_i l3), some (w_i l4), u5] [] [] I J b Q := by
  refine w_iload (q := 15) rfl rfl rfl ?_
  refine w_iload_n (q := 16) rfl rfl rfl ?_
  obtain ⟨h1, h2, k⟩ := k
  refine w_cge (t := 125) (q := 19) rfl rfl rfl h1 h2 (fun c3 => ?_) (fun c3 => ?_)
  · replace k := k.1 c3
    refine w_aload_n (q := 126) rfl rfl rfl ?_
    refine w_gfi (q := 129) (k' := 3) (v := I 103 3) rfl rfl rfl rfl rfl rfl rfl ?_
    exact w_iret rfl rfl k
  · replace k := k.2 c3
    refine w_aload_n (q := 20) rfl rfl rfl ?_
    refine w_gfr (q := 23) rfl rfl rfl rfl (j := 78) rfl ?_
    refine w_gfr (q := 26) rfl rfl rfl rfl (j := 20) rfl ?_
    refine w_dup (q := 27) rfl rfl rfl ?_
    refine w_gfi (q := 30) (k' := 15) (v := I 20 15) rfl rfl rfl rfl rfl rfl rfl ?_
    refine w_bipush (q := 32) rfl rfl rfl ?_
    refine w_iadd (q := 33) rfl rfl ?_
    refine w_pfi (q := 36) (k' := 15) rfl rfl rfl rfl ?_
    refine w_aload_n (q := 37) rfl rfl rfl ?_
    refine w_sipush (q := 40) rfl rfl rfl ?_
    refine w_iload (q := 42) rfl rfl rfl ?_
    refine w_imul (q := 43) rfl rfl ?_
    refine w_callv (q := 46) rfl rfl rfl rfl rfl rfl ?_
    exact k
theorem b38_46 {xs : Nat → Int32} {xl : Nat} {I J : w_I} {b : Bool} {Q : Option Value → w_I → w_I → Bool → Prop} {u1 u5 : Option Value} {l2 l3 l4 : Int} (k : w_C xs xl 43 [.ref 103, w_i (200 * l4)] I J b (fun v Ic Jc bc => w_T xs xl 38 56 [some (.ref 103), u1, some (w_i l2), some (w_i l3), some (w_i l4), u5] [] (w_pv v []) Ic Jc bc Q)) : w_T xs xl 38 46 [some (.ref 103), u1, some (w_i l2), some (w_i l3), some (w_i l4), u5] [] [] I J b Q := by
  refine w_aload_n (q := 47) rfl rfl rfl ?_
  refine w_sipush (q := 50) rfl rfl rfl ?_
  refine w_iload (q := 52) rfl rfl rfl ?_
  refine w_imul (q := 53) rfl rfl ?_
  refine w_callv (q := 56) rfl rfl rfl rfl rfl rfl ?_
  exact k
theorem b38_56 {xs : Nat → Int32} {xl : Nat} {I J : w_I} {b : Bool} {Q : Option Value → w_I → w_I → Bool → Prop} {u1 u5 : Option Value} {l2 l3 l4 s0 : Int} (k : ((-2147483648 ≤ l3 ∧ l3 < 2147483648) ∧ ((¬ l3 = 0 → ((¬ l3 = 2 → w_C xs xl 46 [.ref 103, w_i s0] I J b (fun v Ic Jc bc => w_T xs xl 38 102 [some (.ref 103), u1, some (w_i l2), some (w_i l3), some (w_i l4), some (w_i s0)] [] (w_pv v []) Ic Jc bc Q)) ∧ (l3 = 2 → w_C xs xl 48 [.ref 103, w_i s0] I J b (fun v Ic Jc bc => w_T xs xl 38 93 [some (.ref 103), u1, some (w_i l2), some (w_i l3), some (w_i l4), some (w_i s0)] [] (w_pv v []) Ic Jc bc Q)))) ∧ (l3 = 0 → ((-2147483648 ≤ s0 ∧ s0 < 2147483648) ∧ ((s0 = (-1) → w_C xs xl 45 [.ref 103, w_i (-1)] I J b (fun v Ic Jc bc => w_T xs xl 38 79 [some (.ref 103), u1, some (w_i l2), some (w_i l3), some (w_i l4), some (w_i s0)] [] (w_pv v []) Ic Jc bc Q)) ∧ (¬ s0 = (-1) → w_C xs xl 45 [.ref 103, w_i s0] I J b (fun v Ic Jc bc => w_T xs xl 38 74 [some (.ref 103), u1, some (w_i l2), some (w_i l3), some (w_i l4), some (w_i s0)] [] (w_pv v []) Ic Jc bc Q)))))))) : w_T xs xl 38 56 [some (.ref 103), u1, some (w_i l2), some (w_i l3), some (w_i l4), u5] [] [w_i s0] I J b Q := by
  refine w_istore (q := 58) (L' := [some (.ref 103), u1, some (w_i l2), some (w_i l3), some (w_i l4), some (w_i s0)]) (M' := []) rfl rfl rfl rfl rfl ?_
  refine w_iload_n (q := 59) rfl rfl rfl ?_
  obtain ⟨h1, k⟩ := k
  refine w_zne (t := 82) (q := 62) rfl rfl rfl h1 (fun c2 => ?_) (fun c2 => ?_)
  · replace k := k.1 c2
    refine w_iload_n (q := 83) rfl rfl rfl ?_
    refine w_iconst (q := 84) rfl rfl ?_
    refine w_cne (t := 96) (q := 87) rfl rfl rfl h1 (by decide) (fun c3 => ?_) (fun c3 => ?_)
    · replace k := k.1 c3
      refine w_aload_n (q := 97) rfl rfl rfl ?_
      refine w_iload (q := 99) rfl rfl rfl ?_
      refine w_callv (q := 102) rfl rfl rfl rfl rfl rfl ?_
      exact k
    · replace k := k.2 c3
      refine w_aload_n (q := 88) rfl rfl rfl ?_
      refine w_iload (q := 90) rfl rfl rfl ?_
      refine w_callv (q := 93) rfl rfl rfl rfl rfl rfl ?_
      exact k
  · replace k := k.2 c2
    refine w_iload (q := 64) rfl rfl rfl ?_
    refine w_iconst (q := 65) rfl rfl ?_
    obtain ⟨h4, k⟩ := k
    refine w_ceq (t := 74) (q := 68) rfl rfl rfl h4 (by decide) (fun c5 => ?_) (fun c5 => ?_)
    · replace k := k.1 c5
      refine w_aload_n (q := 75) rfl rfl rfl ?_
      refine w_iconst (q := 76) rfl rfl ?_
      refine w_callv (q := 79) rfl rfl rfl rfl rfl rfl ?_
      exact k
    · replace k := k.2 c5
      refine w_aload_n (q := 69) rfl rfl rfl ?_
      refine w_iload (q := 71) rfl rfl rfl ?_
      refine w_callv (q := 74) rfl rfl rfl rfl rfl rfl ?_
      exact k
theorem b38_102 {xs : Nat → Int32} {xl : Nat} {I J : w_I} {b : Bool} {Q : Option Value → w_I → w_I → Bool → Prop} {u1 u5 : Option Value} {l2 l3 l4 : Int} (k : ((-2147483648 ≤ l3 ∧ l3 < 2147483648) ∧ ((¬ l3 = 3 → w_T xs xl 38 13 [some (.ref 103), u1, some (w_i l2), some (w_i l3), some (w_i (l4 + 1)), u5] [] [] I J b Q) ∧ (l3 = 3 → w_C xs xl 39 [.ref 103] I J b (fun v Ic Jc bc => w_T xs xl 38 111 [some (.ref 103), u1, some (w_i l2), some (w_i l3), some (w_i l4), u5] [] (w_pv v []) Ic Jc bc Q))))) : w_T xs xl 38 102 [some (.ref 103), u1, some (w_i l2), some (w_i l3), some (w_i l4), u5] [] [] I J b Q := by
  refine w_iload_n (q := 103) rfl rfl rfl ?_
  refine w_iconst (q := 104) rfl rfl ?_
  obtain ⟨h1, k⟩ := k
  refine w_cne (t := 119) (q := 107) rfl rfl rfl h1 (by decide) (fun c2 => ?_) (fun c2 => ?_)
  · replace k := k.1 c2
    refine w_iinc (q := 122) (L' := [some (.ref 103), u1, some (w_i l2), some (w_i l3), some (w_i (l4 + 1)), u5]) (M' := []) rfl rfl rfl rfl rfl rfl ?_
    refine w_goto (t := 13) rfl rfl ?_
    exact k
  · replace k := k.2 c2
    refine w_aload_n (q := 108) rfl rfl rfl ?_
    refine w_callv (q := 111) rfl rfl rfl rfl rfl rfl ?_
    exact k
theorem b38_93 {xs : Nat → Int32} {xl : Nat} {I J : w_I} {b : Bool} {Q : Option Value → w_I → w_I → Bool → Prop} {u1 u5 : Option Value} {l2 l3 l4 : Int} (k : w_T xs xl 38 13 [some (.ref 103), u1, some (w_i l2), some (w_i l3), some (w_i (l4 + 1)), u5] [] [] I J b Q) : w_T xs xl 38 93 [some (.ref 103), u1, some (w_i l2), some (w_i l3), some (w_i l4), u5] [] [] I J b Q := by
  refine w_goto (t := 119) rfl rfl ?_
  refine w_iinc (q := 122) (L' := [some (.ref 103), u1, some (w_i l2), some (w_i l3), some (w_i (l4 + 1)), u5]) (M' := []) rfl rfl rfl rfl rfl rfl ?_
  refine w_goto (t := 13) rfl rfl ?_
  exact k
theorem b38_79 {xs : Nat → Int32} {xl : Nat} {I J : w_I} {b : Bool} {Q : Option Value → w_I → w_I → Bool → Prop} {u1 u5 : Option Value} {l2 l3 l4 : Int} (k : w_T xs xl 38 13 [some (.ref 103), u1, some (w_i l2), some (w_i l3), some (w_i (l4 + 1)), u5] [] [] I J b Q) : w_T xs xl 38 79 [some (.ref 103), u1, some (w_i l2), some (w_i l3), some (w_i l4), u5] [] [] I J b Q := by
  refine w_goto (t := 119) rfl rfl ?_
  refine w_iinc (q := 122) (L' := [some (.ref 103), u1, some (w_i l2), some (w_i l3), some (w_i (l4 + 1)), u5]) (M' := []) rfl rfl rfl rfl rfl rfl ?_
  refine w_goto (t := 13) rfl rfl ?_
  exact k
theorem b38_74 {xs : Nat → Int32} {xl : Nat} {I J : w_I} {b : Bool} {Q : Option Value → w_I → w_I → Bool → Prop} {u1 u5 : Option Value} {l2 l3 l4 : Int} (k : w_C xs xl 45 [.ref 103, w_i (-1)] I J b (fun v Ic Jc bc => w_T xs xl 38 79 [some (.ref 103), u1, some (w_i l2), some (w_i l3), some (w_i l4), u5] [] (w_pv v []) Ic Jc bc Q)) : w_T xs xl 38 74 [some (.ref 103), u1, some (w_i l2), some (w_i l3), some (w_i l4), u5] [] [] I J b Q := by
  refine w_aload_n (q := 75) rfl rfl rfl ?_
  refine w_iconst (q := 76) rfl rfl ?_
  refine w_callv (q := 79) rfl rfl rfl rfl rfl rfl ?_
  exact k
theorem b38_111 {xs : Nat → Int32} {xl : Nat} {I J : w_I} {b : Bool} {Q : Option Value → w_I → w_I → Bool → Prop} {u1 u5 : Option Value} {l2 l3 l4 s0 : Int} (k : ((-2147483648 ≤ s0 ∧ s0 < 2147483648) ∧ ((s0 = 0 → w_T xs xl 38 13 [some (.ref 103), u1, some (w_i l2), some (w_i l3), some (w_i (l4 + 1)), u5] [] [] I J b Q) ∧ (¬ s0 = 0 → w_C xs xl 45 [.ref 103, w_i (-1)] I J b (fun v Ic Jc bc => w_T xs xl 38 119 [some (.ref 103), u1, some (w_i l2), some (w_i l3), some (w_i l4), u5] [] (w_pv v []) Ic Jc bc Q))))) : w_T xs xl 38 111 [some (.ref 103), u1, some (w_i l2), some (w_i l3), some (w_i l4), u5] [] [w_i s0] I J b Q := by
  obtain ⟨h1, k⟩ := k
  refine w_zeq (t := 119) (q := 114) rfl rfl rfl h1 (fun c2 => ?_) (fun c2 => ?_)
  · replace k := k.1 c2
    refine w_iinc (q := 122) (L' := [some (.ref 103), u1, some (w_i l2), some (w_i l3), some (w_i (l4 + 1)), u5]) (M' := []) rfl rfl rfl rfl rfl rfl ?_
    refine w_goto (t := 13) rfl rfl ?_
    exact k
  · replace k := k.2 c2
    refine w_aload_n (q := 115) rfl rfl rfl ?_
    refine w_iconst (q := 116) rfl rfl ?_
    refine w_callv (q := 119) rfl rfl rfl rfl rfl rfl ?_
    exact k
theorem b38_119 {xs : Nat → Int32} {xl : Nat} {I J : w_I} {b : Bool} {Q : Option Value → w_I → w_I → Bool → Prop} {u1 u5 : Option Value} {l2 l3 l4 : Int} (k : w_T xs xl 38 13 [some (.ref 103), u1, some (w_i l2), some (w_i l3), some (w_i (l4 + 1)), u5] [] [] I J b Q) : w_T xs xl 38 119 [some (.ref 103), u1, some (w_i l2), some (w_i l3), some (w_i l4), u5] [] [] I J b Q := by
  refine w_iinc (q := 122) (L' := [some (.ref 103), u1, some (w_i l2), some (w_i l3), some (w_i (l4 + 1)), u5]) (M' := []) rfl rfl rfl rfl rfl rfl ?_
  refine w_goto (t := 13) rfl rfl ?_
  exact k
theorem e39 {xs : Nat → Int32} {xl : Nat} {I J : w_I} {b : Bool} {Q : Option Value → w_I → w_I → Bool → Prop} (t : w_T xs xl 39 0 [some (.ref 103)] [] [] I J b Q) : w_C xs xl 39 [.ref 103] I J b Q := w_en rfl t
theorem b39_0 {xs : Nat → Int32} {xl : Nat} {I J : w_I} {b : Bool} {Q : Option Value → w_I → w_I → Bool → Prop} (k : w_C xs xl 21 [.ref 78] I J b (fun v Ic Jc bc => w_T xs xl 39 7 [some (.ref 103)] [] (w_pv v []) Ic Jc bc Q)) : w_T xs xl 39 0 [some (.ref 103)] [] [] I J b Q := by
  refine w_aload_n (q := 1) rfl rfl rfl ?_
  refine w_gfr (q := 4) rfl rfl rfl rfl (j := 78) rfl ?_
  refine w_callv (q := 7) rfl rfl rfl rfl rfl rfl ?_
  exact k
theorem b39_7 {xs : Nat → Int32} {xl : Nat} {I J : w_I} {b : Bool} {Q : Option Value → w_I → w_I → Bool → Prop} (k : w_C xs xl 25 [.ref 78, w_i 0] I J b (fun v Ic Jc bc => w_T xs xl 39 15 [some (.ref 103)] [] (w_pv v []) Ic Jc bc Q)) : w_T xs xl 39 7 [some (.ref 103)] [] [] I J b Q := by
  refine w_aload_n (q := 8) rfl rfl rfl ?_
  refine w_gfr (q := 11) rfl rfl rfl rfl (j := 78) rfl ?_
  refine w_iconst (q := 12) rfl rfl ?_
  refine w_callv (q := 15) rfl rfl rfl rfl rfl rfl ?_
  exact k
theorem b39_15 {xs : Nat → Int32} {xl : Nat} {I J : w_I} {b : Bool} {Q : Option Value → w_I → w_I → Bool → Prop} {s0 : Int} (k : ((-2147483648 ≤ s0 ∧ s0 < 2147483648) ∧ ((s0 = (-1) → Q (some (w_i 0)) I J b) ∧ (¬ s0 = (-1) → Q (some (w_i 1)) I J b)))) : w_T xs xl 39 15 [some (.ref 103)] [] [w_i s0] I J b Q := by
  refine w_iconst (q := 16) rfl rfl ?_
  obtain ⟨h1, k⟩ := k
  refine w_ceq (t := 23) (q := 19) rfl rfl rfl h1 (by decide) (fun c2 => ?_) (fun c2 => ?_)
  · replace k := k.1 c2
    refine w_iconst (q := 24) rfl rfl ?_
    refine w_iret rfl rfl k
  · replace k := k.2 c2
    refine w_iconst (q := 20) rfl rfl ?_
    refine w_goto (t := 24) rfl rfl ?_
    refine w_iret rfl rfl k
theorem e40 {xs : Nat → Int32} {xl : Nat} {I J : w_I} {b : Bool} {Q : Option Value → w_I → w_I → Bool → Prop} {a1 a2 : Int} (t : w_T xs xl 40 0 [some (.ref 103), some (w_i a1), some (w_i a2), none] [] [] I J b Q) : w_C xs xl 40 [.ref 103, w_i a1, w_i a2] I J b Q := w_en rfl t
theorem b40_0 {xs : Nat → Int32} {xl : Nat} {I J : w_I} {b : Bool} {Q : Option Value → w_I → w_I → Bool → Prop} {a1 a2 : Int} (k : w_C xs xl 41 [w_i (I 103 2), w_i 17] I J b (fun v Ic Jc bc => w_T xs xl 40 9 [some (.ref 103), some (w_i a1), some (w_i a2), none] [] (w_pv v []) Ic Jc bc Q)) : w_T xs xl 40 0 [some (.ref 103), some (w_i a1), some (w_i a2), none] [] [] I J b Q := by
  refine w_aload_n (q := 1) rfl rfl rfl ?_
  refine w_gfi (q := 4) (k' := 2) (v := I 103 2) rfl rfl rfl rfl rfl rfl rfl ?_
  refine w_bipush (q := 6) rfl rfl rfl ?_
  refine w_call (q := 9) rfl rfl rfl rfl rfl ?_
  exact k
theorem b40_9 {xs : Nat → Int32} {xl : Nat} {I J : w_I} {b : Bool} {Q : Option Value → w_I → w_I → Bool → Prop} {l1 l2 s0 : Int} {u3 : Option Value} (k : w_C xs xl 41 [w_i s0, w_i l2] I J b (fun v Ic Jc bc => w_T xs xl 40 13 [some (.ref 103), some (w_i l1), some (w_i l2), u3] [] (w_pv v []) Ic Jc bc Q)) : w_T xs xl 40 9 [some (.ref 103), some (w_i l1), some (w_i l2), u3] [] [w_i s0] I J b Q := by
  refine w_iload_n (q := 10) rfl rfl rfl ?_
  refine w_call (q := 13) rfl rfl rfl rfl rfl ?_
  exact k
theorem b40_13 {xs : Nat → Int32} {xl : Nat} {I J : w_I} {b : Bool} {Q : Option Value → w_I → w_I → Bool → Prop} {l1 s0 : Int} {u2 u3 : Option Value} (k : ((-2147483648 ≤ l1 ∧ l1 < 2147483648) ∧ ((l1 ≤ 0 → Q (some (w_i 0)) I J b) ∧ (¬ l1 ≤ 0 → (((0 : Int) ≤ w_ush s0 1 ∧ w_ush s0 1 < 2147483648 ∧ (0 : Int) < l1 ∧ l1 < (2147483648 : Int)) ∧ Q (some (w_i (w_ush s0 1 % l1))) I J b))))) : w_T xs xl 40 13 [some (.ref 103), some (w_i l1), u2, u3] [] [w_i s0] I J b Q := by
  refine w_istore_n (q := 14) (L' := [some (.ref 103), some (w_i l1), u2, some (w_i s0)]) (M' := []) rfl rfl rfl rfl rfl ?_
  refine w_iload_n (q := 15) rfl rfl rfl ?_
  obtain ⟨h1, k⟩ := k
  refine w_zle (t := 26) (q := 18) rfl rfl rfl h1 (fun c2 => ?_) (fun c2 => ?_)
  · replace k := k.1 c2
    refine w_iconst (q := 27) rfl rfl ?_
    exact w_iret rfl rfl k
  · replace k := k.2 c2
    refine w_iload_n (q := 19) rfl rfl rfl ?_
    refine w_iconst (q := 20) rfl rfl ?_
    refine w_iushr (q := 21) rfl rfl ?_
    refine w_iload_n (q := 22) rfl rfl rfl ?_
    obtain ⟨h3, k⟩ := k
    refine w_irem (q := 23) rfl rfl h3 ?_
    refine w_goto (t := 27) rfl rfl ?_
    exact w_iret rfl rfl k
theorem e41 {xs : Nat → Int32} {xl : Nat} {I J : w_I} {b : Bool} {Q : Option Value → w_I → w_I → Bool → Prop} {a0 a1 : Int} (t : w_T xs xl 41 0 [some (w_i a0), some (w_i a1), none] [] [] I J b Q) : w_C xs xl 41 [w_i a0, w_i a1] I J b Q := w_en rfl t
theorem b41_0 {xs : Nat → Int32} {xl : Nat} {I J : w_I} {b : Bool} {Q : Option Value → w_I → w_I → Bool → Prop} {a0 a1 : Int} (k : Q (some (w_i (w_xor (w_xor a0 a1 * 1103515245 + 12345) (w_ush (w_xor a0 a1 * 1103515245 + 12345) 15)))) I J b) : w_T xs xl 41 0 [some (w_i a0), some (w_i a1), none] [] [] I J b Q := by
  refine w_iload_n (q := 1) rfl rfl rfl ?_
  refine w_iload_n (q := 2) rfl rfl rfl ?_
  refine w_ixor (q := 3) rfl rfl ?_
  refine w_ldc (q := 5) (n := 1103515245) rfl rfl rfl ?_
  refine w_imul (q := 6) rfl rfl ?_
  refine w_sipush (q := 9) rfl rfl rfl ?_
  refine w_iadd (q := 10) rfl rfl ?_
  refine w_istore_n (q := 11) (L' := [some (w_i a0), some (w_i a1), some (w_i (w_xor a0 a1 * 1103515245 + 12345))]) (M' := []) rfl rfl rfl rfl rfl ?_
  refine w_iload_n (q := 12) rfl rfl rfl ?_
  refine w_iload_n (q := 13) rfl rfl rfl ?_
  refine w_bipush (q := 15) rfl rfl rfl ?_
  refine w_iushr (q := 16) rfl rfl ?_
  refine w_ixor (q := 17) rfl rfl ?_
  exact w_iret rfl rfl k
theorem e42 {xs : Nat → Int32} {xl : Nat} {I J : w_I} {b : Bool} {Q : Option Value → w_I → w_I → Bool → Prop} {a1 : Int} (t : w_T xs xl 42 0 [some (.ref 103), some (w_i a1), none, none] [] [] I J b Q) : w_C xs xl 42 [.ref 103, w_i a1] I J b Q := w_en rfl t
theorem b42_0 {xs : Nat → Int32} {xl : Nat} {I J : w_I} {b : Bool} {Q : Option Value → w_I → w_I → Bool → Prop} {a1 : Int} (k : w_T xs xl 42 10 [some (.ref 103), some (w_i a1), some (.ref 20), some (w_i 0)] [] [] I J b Q) : w_T xs xl 42 0 [some (.ref 103), some (w_i a1), none, none] [] [] I J b Q := by
  refine w_aload_n (q := 1) rfl rfl rfl ?_
  refine w_gfr (q := 4) rfl rfl rfl rfl (j := 78) rfl ?_
  refine w_gfr (q := 7) rfl rfl rfl rfl (j := 20) rfl ?_
  refine w_astore_n (q := 8) (L' := [some (.ref 103), some (w_i a1), some (.ref 20), none]) (M' := []) rfl rfl rfl rfl rfl rfl ?_
  refine w_iconst (q := 9) rfl rfl ?_
  refine w_istore_n (q := 10) (L' := [some (.ref 103), some (w_i a1), some (.ref 20), some (w_i 0)]) (M' := []) rfl rfl rfl rfl rfl ?_
  exact k
theorem b42_10 {xs : Nat → Int32} {xl : Nat} {I J : w_I} {b : Bool} {Q : Option Value → w_I → w_I → Bool → Prop} {l1 l3 : Int} (k : ((-2147483648 ≤ l3 ∧ l3 < 2147483648) ∧ (-2147483648 ≤ I 20 13 ∧ I 20 13 < 2147483648) ∧ ((I 20 13 ≤ l3 → Q none I J b) ∧ (¬ I 20 13 ≤ l3 → ((0 ≤ l3 ∧ l3 < 60) ∧ ((-2147483648 ≤ I 25 l3 ∧ I 25 l3 < 2147483648) ∧ ((I 25 l3 = (-1) → w_T xs xl 42 10 [some (.ref 103), some (w_i l1), some (.ref 20), some (w_i (l3 + 1))] [] [] I J b Q) ∧ (¬ I 25 l3 = (-1) → w_C xs xl 40 [.ref 103, w_i 100, w_i (l1 + l3)] I J b (fun v Ic Jc bc => w_T xs xl 42 37 [some (.ref 103), some (w_i l1), some (.ref 20), some (w_i l3)] [] (w_pv v []) Ic Jc bc Q))))))))) : w_T xs xl 42 10 [some (.ref 103), some (w_i l1), some (.ref 20), some (w_i l3)] [] [] I J b Q := by
  refine w_iload_n (q := 11) rfl rfl rfl ?_
  refine w_aload_n (q := 12) rfl rfl rfl ?_
  refine w_gfi (q := 15) (k' := 13) (v := I 20 13) rfl rfl rfl rfl rfl rfl rfl ?_
  obtain ⟨h1, h2, k⟩ := k
  refine w_cge (t := 70) (q := 18) rfl rfl rfl h1 h2 (fun c3 => ?_) (fun c3 => ?_)
  · replace k := k.1 c3
    exact w_vret rfl k
  · replace k := k.2 c3
    refine w_aload_n (q := 19) rfl rfl rfl ?_
    refine w_gfr (q := 22) rfl rfl rfl rfl (j := 25) rfl ?_
    refine w_iload_n (q := 23) rfl rfl rfl ?_
    obtain ⟨h4, k⟩ := k
    refine w_iald (q := 24) (n := 60) (v := I 25 l3) rfl rfl rfl rfl rfl rfl h4 ?_
    refine w_iconst (q := 25) rfl rfl ?_
    obtain ⟨h5, k⟩ := k
    refine w_ceq (t := 64) (q := 28) rfl rfl rfl h5 (by decide) (fun c6 => ?_) (fun c6 => ?_)
    · replace k := k.1 c6
      refine w_iinc (q := 67) (L' := [some (.ref 103), some (w_i l1), some (.ref 20), some (w_i (l3 + 1))]) (M' := []) rfl rfl rfl rfl rfl rfl ?_
      refine w_goto (t := 10) rfl rfl ?_
      exact k
    · replace k := k.2 c6
      refine w_aload_n (q := 29) rfl rfl rfl ?_
      refine w_bipush (q := 31) rfl rfl rfl ?_
      refine w_iload_n (q := 32) rfl rfl rfl ?_
      refine w_iload_n (q := 33) rfl rfl rfl ?_
      refine w_iadd (q := 34) rfl rfl ?_
      refine w_callv (q := 37) rfl rfl rfl rfl rfl rfl ?_
      exact k
theorem b42_37 {xs : Nat → Int32} {xl : Nat} {I J : w_I} {b : Bool} {Q : Option Value → w_I → w_I → Bool → Prop} {l1 l3 s0 : Int} (k : w_C xs xl 11 [.ref 20, w_i l3, w_i 0] I J b (fun v Ic Jc bc => w_T xs xl 42 47 [some (.ref 103), some (w_i l1), some (.ref 20), some (w_i l3)] [] (w_pv v [.ref 78, w_i s0]) Ic Jc bc Q)) : w_T xs xl 42 37 [some (.ref 103), some (w_i l1), some (.ref 20), some (w_i l3)] [] [w_i s0] I J b Q := by
  refine w_aload_n (q := 38) rfl rfl rfl ?_
  refine w_gfr (q := 41) rfl rfl rfl rfl (j := 78) rfl ?_
  refine w_aload_n (q := 42) rfl rfl rfl ?_
  refine w_iload_n (q := 43) rfl rfl rfl ?_
  refine w_iconst (q := 44) rfl rfl ?_
  refine w_callv (q := 47) rfl rfl rfl rfl rfl rfl ?_
  exact k
theorem b42_47 {xs : Nat → Int32} {xl : Nat} {I J : w_I} {b : Bool} {Q : Option Value → w_I → w_I → Bool → Prop} {l1 l3 s0 s2 : Int} (k : ((0 ≤ l3 ∧ l3 < 60) ∧ w_C xs xl 30 [.ref 78, w_i s2, w_i (I 24 l3)] I J b (fun v Ic Jc bc => w_T xs xl 42 56 [some (.ref 103), some (w_i l1), some (.ref 20), some (w_i l3)] [] (w_pv v [w_i s0]) Ic Jc bc Q))) : w_T xs xl 42 47 [some (.ref 103), some (w_i l1), some (.ref 20), some (w_i l3)] [] [w_i s2, .ref 78, w_i s0] I J b Q := by
  refine w_aload_n (q := 48) rfl rfl rfl ?_
  refine w_gfr (q := 51) rfl rfl rfl rfl (j := 24) rfl ?_
  refine w_iload_n (q := 52) rfl rfl rfl ?_
  obtain ⟨h1, k⟩ := k
  refine w_iald (q := 53) (n := 60) (v := I 24 l3) rfl rfl rfl rfl rfl rfl h1 ?_
  refine w_callv (q := 56) rfl rfl rfl rfl rfl rfl ?_
  exact k
theorem b42_56 {xs : Nat → Int32} {xl : Nat} {I J : w_I} {b : Bool} {Q : Option Value → w_I → w_I → Bool → Prop} {l1 l3 s0 s1 : Int} (k : ((-2147483648 ≤ s0 ∧ s0 < 2147483648) ∧ (-2147483648 ≤ s1 ∧ s1 < 2147483648) ∧ ((s1 ≤ s0 → w_T xs xl 42 10 [some (.ref 103), some (w_i l1), some (.ref 20), some (w_i (l3 + 1))] [] [] I J b Q) ∧ (¬ s1 ≤ s0 → w_C xs xl 14 [.ref 20, w_i l3] I J b (fun v Ic Jc bc => w_T xs xl 42 64 [some (.ref 103), some (w_i l1), some (.ref 20), some (w_i l3)] [] (w_pv v []) Ic Jc bc Q))))) : w_T xs xl 42 56 [some (.ref 103), some (w_i l1), some (.ref 20), some (w_i l3)] [] [w_i s1, w_i s0] I J b Q := by
  obtain ⟨h1, h2, k⟩ := k
  refine w_cge (t := 64) (q := 59) rfl rfl rfl h1 h2 (fun c3 => ?_) (fun c3 => ?_)
  · replace k := k.1 c3
    refine w_iinc (q := 67) (L' := [some (.ref 103), some (w_i l1), some (.ref 20), some (w_i (l3 + 1))]) (M' := []) rfl rfl rfl rfl rfl rfl ?_
    refine w_goto (t := 10) rfl rfl ?_
    exact k
  · replace k := k.2 c3
    refine w_aload_n (q := 60) rfl rfl rfl ?_
    refine w_iload_n (q := 61) rfl rfl rfl ?_
    refine w_callv (q := 64) rfl rfl rfl rfl rfl rfl ?_
    exact k
theorem b42_64 {xs : Nat → Int32} {xl : Nat} {I J : w_I} {b : Bool} {Q : Option Value → w_I → w_I → Bool → Prop} {l1 l3 : Int} (k : w_T xs xl 42 10 [some (.ref 103), some (w_i l1), some (.ref 20), some (w_i (l3 + 1))] [] [] I J b Q) : w_T xs xl 42 64 [some (.ref 103), some (w_i l1), some (.ref 20), some (w_i l3)] [] [] I J b Q := by
  refine w_iinc (q := 67) (L' := [some (.ref 103), some (w_i l1), some (.ref 20), some (w_i (l3 + 1))]) (M' := []) rfl rfl rfl rfl rfl rfl ?_
  refine w_goto (t := 10) rfl rfl ?_
  exact k
theorem e43 {xs : Nat → Int32} {xl : Nat} {I J : w_I} {b : Bool} {Q : Option Value → w_I → w_I → Bool → Prop} {a1 : Int} (t : w_T xs xl 43 0 [some (.ref 103), some (w_i a1), none, none] [] [] I J b Q) : w_C xs xl 43 [.ref 103, w_i a1] I J b Q := w_en rfl t
theorem b43_0 {xs : Nat → Int32} {xl : Nat} {I J : w_I} {b : Bool} {Q : Option Value → w_I → w_I → Bool → Prop} {a1 : Int} (k : w_C xs xl 7 [.ref 20] I J b (fun v Ic Jc bc => w_T xs xl 43 10 [some (.ref 103), some (w_i a1), none, none] [] (w_pv v []) Ic Jc bc Q)) : w_T xs xl 43 0 [some (.ref 103), some (w_i a1), none, none] [] [] I J b Q := by
  refine w_aload_n (q := 1) rfl rfl rfl ?_
  refine w_gfr (q := 4) rfl rfl rfl rfl (j := 78) rfl ?_
  refine w_gfr (q := 7) rfl rfl rfl rfl (j := 20) rfl ?_
  refine w_callv (q := 10) rfl rfl rfl rfl rfl rfl ?_
  exact k
theorem b43_10 {xs : Nat → Int32} {xl : Nat} {I J : w_I} {b : Bool} {Q : Option Value → w_I → w_I → Bool → Prop} {l1 s0 : Int} {u2 u3 : Option Value} (k : ((-2147483648 ≤ s0 ∧ s0 < 2147483648) ∧ ((¬ s0 = 0 → Q (some (w_i (-1))) I J b) ∧ (s0 = 0 → w_C xs xl 40 [.ref 103, w_i 100, w_i (l1 + 100)] I J b (fun v Ic Jc bc => w_T xs xl 43 23 [some (.ref 103), some (w_i l1), u2, u3] [] (w_pv v []) Ic Jc bc Q))))) : w_T xs xl 43 10 [some (.ref 103), some (w_i l1), u2, u3] [] [w_i s0] I J b Q := by
  obtain ⟨h1, k⟩ := k
  refine w_zne (t := 28) (q := 13) rfl rfl rfl h1 (fun c2 => ?_) (fun c2 => ?_)
  · replace k := k.1 c2
    refine w_iconst (q := 29) rfl rfl ?_
    exact w_iret rfl rfl k
  · replace k := k.2 c2
    refine w_aload_n (q := 14) rfl rfl rfl ?_
    refine w_bipush (q := 16) rfl rfl rfl ?_
    refine w_iload_n (q := 17) rfl rfl rfl ?_
    refine w_bipush (q := 19) rfl rfl rfl ?_
    refine w_iadd (q := 20) rfl rfl ?_
    refine w_callv (q := 23) rfl rfl rfl rfl rfl rfl ?_
    exact k
theorem b43_23 {xs : Nat → Int32} {xl : Nat} {I J : w_I} {b : Bool} {Q : Option Value → w_I → w_I → Bool → Prop} {l1 s0 : Int} {u2 u3 : Option Value} (k : ((-2147483648 ≤ s0 ∧ s0 < 2147483648) ∧ ((s0 < 50 → w_C xs xl 40 [.ref 103, w_i 90, w_i (l1 + 101)] I J b (fun v Ic Jc bc => w_T xs xl 43 40 [some (.ref 103), some (w_i l1), u2, u3] [] (w_pv v []) Ic Jc bc Q)) ∧ (¬ s0 < 50 → Q (some (w_i (-1))) I J b)))) : w_T xs xl 43 23 [some (.ref 103), some (w_i l1), u2, u3] [] [w_i s0] I J b Q := by
  refine w_bipush (q := 25) rfl rfl rfl ?_
  obtain ⟨h1, k⟩ := k
  refine w_clt (t := 30) (q := 28) rfl rfl rfl h1 (by decide) (fun c2 => ?_) (fun c2 => ?_)
  · replace k := k.1 c2
    refine w_aload_n (q := 31) rfl rfl rfl ?_
    refine w_bipush (q := 33) rfl rfl rfl ?_
    refine w_iload_n (q := 34) rfl rfl rfl ?_
    refine w_bipush (q := 36) rfl rfl rfl ?_
    refine w_iadd (q := 37) rfl rfl ?_
    refine w_callv (q := 40) rfl rfl rfl rfl rfl rfl ?_
    exact k
  · replace k := k.2 c2
    refine w_iconst (q := 29) rfl rfl ?_
    exact w_iret rfl rfl k
theorem b43_40 {xs : Nat → Int32} {xl : Nat} {I J : w_I} {b : Bool} {Q : Option Value → w_I → w_I → Bool → Prop} {l1 s0 : Int} {u2 u3 : Option Value} (k : w_C xs xl 40 [.ref 103, w_i 9, w_i (l1 + 102)] I J b (fun v Ic Jc bc => w_T xs xl 43 60 [some (.ref 103), some (w_i l1), some (w_i s0), u3] [] (w_pv v [w_i s0, w_i s0, .ref 20]) Ic Jc bc Q)) : w_T xs xl 43 40 [some (.ref 103), some (w_i l1), u2, u3] [] [w_i s0] I J b Q := by
  refine w_istore_n (q := 41) (L' := [some (.ref 103), some (w_i l1), some (w_i s0), u3]) (M' := []) rfl rfl rfl rfl rfl ?_
  refine w_aload_n (q := 42) rfl rfl rfl ?_
  refine w_gfr (q := 45) rfl rfl rfl rfl (j := 78) rfl ?_
  refine w_gfr (q := 48) rfl rfl rfl rfl (j := 20) rfl ?_
  refine w_iload_n (q := 49) rfl rfl rfl ?_
  refine w_iload_n (q := 50) rfl rfl rfl ?_
  refine w_aload_n (q := 51) rfl rfl rfl ?_
  refine w_bipush (q := 53) rfl rfl rfl ?_
  refine w_iload_n (q := 54) rfl rfl rfl ?_
  refine w_bipush (q := 56) rfl rfl rfl ?_
  refine w_iadd (q := 57) rfl rfl ?_
  refine w_callv (q := 60) rfl rfl rfl rfl rfl rfl ?_
  exact k
theorem b43_60 {xs : Nat → Int32} {xl : Nat} {I J : w_I} {b : Bool} {Q : Option Value → w_I → w_I → Bool → Prop} {u1 u2 u3 : Option Value} {s1 s2 s3 : Int} (k : ((-2147483648 ≤ s3 ∧ s3 < 2147483648) ∧ ((¬ s3 = 0 → w_C xs xl 12 [.ref 20, w_i s1, w_i s2, w_i 0] I J b (fun v Ic Jc bc => w_T xs xl 43 71 [some (.ref 103), u1, u2, u3] [] (w_pv v []) Ic Jc bc Q)) ∧ (s3 = 0 → w_C xs xl 12 [.ref 20, w_i s1, w_i s2, w_i 1] I J b (fun v Ic Jc bc => w_T xs xl 43 71 [some (.ref 103), u1, u2, u3] [] (w_pv v []) Ic Jc bc Q))))) : w_T xs xl 43 60 [some (.ref 103), u1, u2, u3] [] [w_i s3, w_i s2, w_i s1, .ref 20] I J b Q := by
  obtain ⟨h1, k⟩ := k
  refine w_zne (t := 67) (q := 63) rfl rfl rfl h1 (fun c2 => ?_) (fun c2 => ?_)
  · replace k := k.1 c2
    refine w_iconst (q := 68) rfl rfl ?_
    refine w_callv (q := 71) rfl rfl rfl rfl rfl rfl ?_
    exact k
  · replace k := k.2 c2
    refine w_iconst (q := 64) rfl rfl ?_
    refine w_goto (t := 68) rfl rfl ?_
    refine w_callv (q := 71) rfl rfl rfl rfl rfl rfl ?_
    exact k
theorem b43_71 {xs : Nat → Int32} {xl : Nat} {I J : w_I} {b : Bool} {Q : Option Value → w_I → w_I → Bool → Prop} {u1 u2 u3 : Option Value} {s0 : Int} (k : ((-2147483648 ≤ s0 ∧ s0 < 2147483648) ∧ ((¬ s0 = (-1) → ((0 ≤ s0 ∧ s0 < 60) ∧ Q (some (w_i (I 25 s0))) I J b)) ∧ (s0 = (-1) → Q (some (w_i (-1))) I J b)))) : w_T xs xl 43 71 [some (.ref 103), u1, u2, u3] [] [w_i s0] I J b Q := by
  refine w_istore_n (q := 72) (L' := [some (.ref 103), u1, u2, some (w_i s0)]) (M' := []) rfl rfl rfl rfl rfl ?_
  refine w_iload_n (q := 73) rfl rfl rfl ?_
  refine w_iconst (q := 74) rfl rfl ?_
  obtain ⟨h1, k⟩ := k
  refine w_cne (t := 81) (q := 77) rfl rfl rfl h1 (by decide) (fun c2 => ?_) (fun c2 => ?_)
  · replace k := k.1 c2
    refine w_aload_n (q := 82) rfl rfl rfl ?_
    refine w_gfr (q := 85) rfl rfl rfl rfl (j := 78) rfl ?_
    refine w_gfr (q := 88) rfl rfl rfl rfl (j := 20) rfl ?_
    refine w_gfr (q := 91) rfl rfl rfl rfl (j := 25) rfl ?_
    refine w_iload_n (q := 92) rfl rfl rfl ?_
    obtain ⟨h3, k⟩ := k
    refine w_iald (q := 93) (n := 60) (v := I 25 s0) rfl rfl rfl rfl rfl rfl h3 ?_
    exact w_iret rfl rfl k
  · replace k := k.2 c2
    refine w_iconst (q := 78) rfl rfl ?_
    refine w_goto (t := 93) rfl rfl ?_
    exact w_iret rfl rfl k
theorem e44 {xs : Nat → Int32} {xl : Nat} {I J : w_I} {b : Bool} {Q : Option Value → w_I → w_I → Bool → Prop} {a1 : Int} (t : w_T xs xl 44 0 [some (.ref 103), some (w_i a1), none] [] [] I J b Q) : w_C xs xl 44 [.ref 103, w_i a1] I J b Q := w_en rfl t
theorem b44_0 {xs : Nat → Int32} {xl : Nat} {I J : w_I} {b : Bool} {Q : Option Value → w_I → w_I → Bool → Prop} {a1 : Int} (k : w_C xs xl 18 [.ref 20, w_i a1] I J b (fun v Ic Jc bc => w_T xs xl 44 11 [some (.ref 103), some (w_i a1), none] [] (w_pv v []) Ic Jc bc Q)) : w_T xs xl 44 0 [some (.ref 103), some (w_i a1), none] [] [] I J b Q := by
  refine w_aload_n (q := 1) rfl rfl rfl ?_
  refine w_gfr (q := 4) rfl rfl rfl rfl (j := 78) rfl ?_
  refine w_gfr (q := 7) rfl rfl rfl rfl (j := 20) rfl ?_
  refine w_iload_n (q := 8) rfl rfl rfl ?_
  refine w_callv (q := 11) rfl rfl rfl rfl rfl rfl ?_
  exact k
theorem b44_11 {xs : Nat → Int32} {xl : Nat} {I J : w_I} {b : Bool} {Q : Option Value → w_I → w_I → Bool → Prop} {u1 u2 : Option Value} {s0 : Int} (k : ((-2147483648 ≤ s0 ∧ s0 < 2147483648) ∧ ((s0 = (-1) → Q none I J b) ∧ (¬ s0 = (-1) → w_C xs xl 14 [.ref 20, w_i s0] I J b (fun v Ic Jc bc => w_T xs xl 44 28 [some (.ref 103), u1, some (w_i s0)] [] (w_pv v []) Ic Jc bc Q))))) : w_T xs xl 44 11 [some (.ref 103), u1, u2] [] [w_i s0] I J b Q := by
  refine w_istore_n (q := 12) (L' := [some (.ref 103), u1, some (w_i s0)]) (M' := []) rfl rfl rfl rfl rfl ?_
  refine w_iload_n (q := 13) rfl rfl rfl ?_
  refine w_iconst (q := 14) rfl rfl ?_
  obtain ⟨h1, k⟩ := k
  refine w_ceq (t := 28) (q := 17) rfl rfl rfl h1 (by decide) (fun c2 => ?_) (fun c2 => ?_)
  · replace k := k.1 c2
    exact w_vret rfl k
  · replace k := k.2 c2
    refine w_aload_n (q := 18) rfl rfl rfl ?_
    refine w_gfr (q := 21) rfl rfl rfl rfl (j := 78) rfl ?_
    refine w_gfr (q := 24) rfl rfl rfl rfl (j := 20) rfl ?_
    refine w_iload_n (q := 25) rfl rfl rfl ?_
    refine w_callv (q := 28) rfl rfl rfl rfl rfl rfl ?_
    exact k
theorem b44_28 {xs : Nat → Int32} {xl : Nat} {I J : w_I} {b : Bool} {Q : Option Value → w_I → w_I → Bool → Prop} {u1 u2 : Option Value} (k : Q none I J b) : w_T xs xl 44 28 [some (.ref 103), u1, u2] [] [] I J b Q := by
  exact w_vret rfl k
theorem e45 {xs : Nat → Int32} {xl : Nat} {I J : w_I} {b : Bool} {Q : Option Value → w_I → w_I → Bool → Prop} {a1 : Int} (t : w_T xs xl 45 0 [some (.ref 103), some (w_i a1)] [] [] I J b Q) : w_C xs xl 45 [.ref 103, w_i a1] I J b Q := w_en rfl t
theorem b45_0 {xs : Nat → Int32} {xl : Nat} {I J : w_I} {b : Bool} {Q : Option Value → w_I → w_I → Bool → Prop} {a1 : Int} (k : w_C xs xl 33 [.ref 85, w_i a1] I J b (fun v Ic Jc bc => w_T xs xl 45 8 [some (.ref 103), some (w_i a1)] [] (w_pv v []) Ic Jc bc Q)) : w_T xs xl 45 0 [some (.ref 103), some (w_i a1)] [] [] I J b Q := by
  refine w_aload_n (q := 1) rfl rfl rfl ?_
  refine w_gfr (q := 4) rfl rfl rfl rfl (j := 85) rfl ?_
  refine w_iload_n (q := 5) rfl rfl rfl ?_
  refine w_callv (q := 8) rfl rfl rfl rfl rfl rfl ?_
  exact k
theorem b45_8 {xs : Nat → Int32} {xl : Nat} {I J : w_I} {b : Bool} {Q : Option Value → w_I → w_I → Bool → Prop} {l1 s0 : Int} (k : ((-2147483648 ≤ s0 ∧ s0 < 2147483648) ∧ ((s0 = 0 → ((-2147483648 ≤ l1 ∧ l1 < 2147483648) ∧ ((l1 = (-1) → Q none I J b) ∧ (¬ l1 = (-1) → w_C xs xl 44 [.ref 103, w_i l1] I J b (fun v Ic Jc bc => w_T xs xl 45 47 [some (.ref 103), some (w_i l1)] [] (w_pv v []) Ic Jc bc Q))))) ∧ (¬ s0 = 0 → w_C xs xl 36 [.ref 85] I J b (fun v Ic Jc bc => w_T xs xl 45 18 [some (.ref 103), some (w_i l1)] [] (w_pv v []) Ic Jc bc Q))))) : w_T xs xl 45 8 [some (.ref 103), some (w_i l1)] [] [w_i s0] I J b Q := by
  obtain ⟨h1, k⟩ := k
  refine w_zeq (t := 37) (q := 11) rfl rfl rfl h1 (fun c2 => ?_) (fun c2 => ?_)
  · replace k := k.1 c2
    refine w_iload_n (q := 38) rfl rfl rfl ?_
    refine w_iconst (q := 39) rfl rfl ?_
    obtain ⟨h3, k⟩ := k
    refine w_ceq (t := 47) (q := 42) rfl rfl rfl h3 (by decide) (fun c4 => ?_) (fun c4 => ?_)
    · replace k := k.1 c4
      exact w_vret rfl k
    · replace k := k.2 c4
      refine w_aload_n (q := 43) rfl rfl rfl ?_
      refine w_iload_n (q := 44) rfl rfl rfl ?_
      refine w_callv (q := 47) rfl rfl rfl rfl rfl rfl ?_
      exact k
  · replace k := k.2 c2
    refine w_aload_n (q := 12) rfl rfl rfl ?_
    refine w_gfr (q := 15) rfl rfl rfl rfl (j := 85) rfl ?_
    refine w_callv (q := 18) rfl rfl rfl rfl rfl rfl ?_
    exact k
theorem b45_47 {xs : Nat → Int32} {xl : Nat} {I J : w_I} {b : Bool} {Q : Option Value → w_I → w_I → Bool → Prop} {u1 : Option Value} (k : Q none I J b) : w_T xs xl 45 47 [some (.ref 103), u1] [] [] I J b Q := by
  exact w_vret rfl k
theorem b45_18 {xs : Nat → Int32} {xl : Nat} {I J : w_I} {b : Bool} {Q : Option Value → w_I → w_I → Bool → Prop} {u1 : Option Value} (k : Q none (w_U I 103 3 (I 103 3 + I 85 4)) J b) : w_T xs xl 45 18 [some (.ref 103), u1] [] [] I J b Q := by
  refine w_aload_n (q := 19) rfl rfl rfl ?_
  refine w_dup (q := 20) rfl rfl rfl ?_
  refine w_gfi (q := 23) (k' := 3) (v := I 103 3) rfl rfl rfl rfl rfl rfl rfl ?_
  refine w_aload_n (q := 24) rfl rfl rfl ?_
  refine w_gfr (q := 27) rfl rfl rfl rfl (j := 85) rfl ?_
  refine w_gfi (q := 30) (k' := 4) (v := I 85 4) rfl rfl rfl rfl rfl rfl rfl ?_
  refine w_iadd (q := 31) rfl rfl ?_
  refine w_pfi (q := 34) (k' := 3) rfl rfl rfl rfl ?_
  refine w_goto (t := 47) rfl rfl ?_
  exact w_vret rfl k
theorem e46 {xs : Nat → Int32} {xl : Nat} {I J : w_I} {b : Bool} {Q : Option Value → w_I → w_I → Bool → Prop} {a1 : Int} (t : w_T xs xl 46 0 [some (.ref 103), some (w_i a1), none, none, none, none] [] [] I J b Q) : w_C xs xl 46 [.ref 103, w_i a1] I J b Q := w_en rfl t
theorem b46_0 {xs : Nat → Int32} {xl : Nat} {I J : w_I} {b : Bool} {Q : Option Value → w_I → w_I → Bool → Prop} {a1 : Int} (k : ((-2147483648 ≤ a1 ∧ a1 < 2147483648) ∧ ((¬ a1 = (-1) → w_C xs xl 47 [.ref 103, w_i a1] I J b (fun v Ic Jc bc => w_T xs xl 46 11 [some (.ref 103), some (w_i a1), none, none, none, none] [] (w_pv v []) Ic Jc bc Q)) ∧ (a1 = (-1) → Q none I J b)))) : w_T xs xl 46 0 [some (.ref 103), some (w_i a1), none, none, none, none] [] [] I J b Q := by
  refine w_iload_n (q := 1) rfl rfl rfl ?_
  refine w_iconst (q := 2) rfl rfl ?_
  obtain ⟨h1, k⟩ := k
  refine w_cne (t := 6) (q := 5) rfl rfl rfl h1 (by decide) (fun c2 => ?_) (fun c2 => ?_)
  · replace k := k.1 c2
    refine w_aload_n (q := 7) rfl rfl rfl ?_
    refine w_iload_n (q := 8) rfl rfl rfl ?_
    refine w_callv (q := 11) rfl rfl rfl rfl rfl rfl ?_
    exact k
  · replace k := k.2 c2
    exact w_vret rfl k
theorem b46_11 {xs : Nat → Int32} {xl : Nat} {I J : w_I} {b : Bool} {Q : Option Value → w_I → w_I → Bool → Prop} {l1 s0 : Int} {u2 u3 u4 u5 : Option Value} (k : w_T xs xl 46 17 [some (.ref 103), some (w_i l1), some (w_i s0), some (w_i (-1)), some (w_i 0), u5] [] [] I J b Q) : w_T xs xl 46 11 [some (.ref 103), some (w_i l1), u2, u3, u4, u5] [] [w_i s0] I J b Q := by
  refine w_istore_n (q := 12) (L' := [some (.ref 103), some (w_i l1), some (w_i s0), u3, u4, u5]) (M' := []) rfl rfl rfl rfl rfl ?_
  refine w_iconst (q := 13) rfl rfl ?_
  refine w_istore_n (q := 14) (L' := [some (.ref 103), some (w_i l1), some (w_i s0), some (w_i (-1)), u4, u5]) (M' := []) rfl rfl rfl rfl rfl ?_
  refine w_iconst (q := 15) rfl rfl ?_
  refine w_istore (q := 17) (L' := [some (.ref 103), some (w_i l1), some (w_i s0), some (w_i (-1)), some (w_i 0), u5]) (M' := []) rfl rfl rfl rfl rfl ?_
  exact k
theorem b46_17 {xs : Nat → Int32} {xl : Nat} {I J : w_I} {b : Bool} {Q : Option Value → w_I → w_I → Bool → Prop} {l1 l2 l3 l4 : Int} {u5 : Option Value} (k : ((-2147483648 ≤ l4 ∧ l4 < 2147483648) ∧ (-2147483648 ≤ I 2 5 ∧ I 2 5 < 2147483648) ∧ ((I 2 5 ≤ l4 → ((-2147483648 ≤ l3 ∧ l3 < 2147483648) ∧ ((¬ l3 = (-1) → w_C xs xl 16 [.ref 20, w_i l1, w_i l3] I J b (fun v Ic Jc bc => w_T xs xl 46 116 [some (.ref 103), some (w_i l1), some (w_i l2), some (w_i l3), some (w_i l4), u5] [] (w_pv v []) Ic Jc bc Q)) ∧ (l3 = (-1) → w_C xs xl 44 [.ref 103, w_i l1] I J b (fun v Ic Jc bc => w_T xs xl 46 101 [some (.ref 103), some (w_i l1), some (w_i l2), some (w_i l3), some (w_i l4), u5] [] (w_pv v []) Ic Jc bc Q))))) ∧ (¬ I 2 5 ≤ l4 → ((0 ≤ l4 ∧ l4 < 24) ∧ ((-2147483648 ≤ I 30 l4 ∧ I 30 l4 < 2147483648) ∧ ((¬ I 30 l4 = (-1) → w_T xs xl 46 17 [some (.ref 103), some (w_i l1), some (w_i l2), some (w_i l3), some (w_i (l4 + 1)), some (w_i 0)] [] [] I J b Q) ∧ (I 30 l4 = (-1) → ((-2147483648 ≤ l3 ∧ l3 < 2147483648) ∧ ((l3 = (-1) → w_T xs xl 46 17 [some (.ref 103), some (w_i l1), some (w_i l2), some (w_i l4), some (w_i (l4 + 1)), some (w_i 1)] [] [] I J b Q) ∧ (¬ l3 = (-1) → ((-2147483648 ≤ l4 - l2 ∧ l4 - l2 < 2147483648) ∧ ((-2147483648 ≤ l3 - l2 ∧ l3 - l2 < 2147483648) ∧ ((-2147483648 ≤ (if 0 ≤ l4 - l2 then l4 - l2 else -(l4 - l2)) ∧ (if 0 ≤ l4 - l2 then l4 - l2 else -(l4 - l2)) < 2147483648) ∧ (-2147483648 ≤ (if 0 ≤ l3 - l2 then l3 - l2 else -(l3 - l2)) ∧ (if 0 ≤ l3 - l2 then l3 - l2 else -(l3 - l2)) < 2147483648) ∧ (((if 0 ≤ l3 - l2 then l3 - l2 else -(l3 - l2)) ≤ (if 0 ≤ l4 - l2 then l4 - l2 else -(l4 - l2)) → w_T xs xl 46 17 [some (.ref 103), some (w_i l1), some (w_i l2), some (w_i l3), some (w_i (l4 + 1)), some (w_i 1)] [] [] I J b Q) ∧ (¬ (if 0 ≤ l3 - l2 then l3 - l2 else -(l3 - l2)) ≤ (if 0 ≤ l4 - l2 then l4 - l2 else -(l4 - l2)) → w_T xs xl 46 17 [some (.ref 103), some (w_i l1), some (w_i l2), some (w_i l4), some (w_i (l4 + 1)), some (w_i 1)] [] [] I J b Q)))))))))))))))) : w_T xs xl 46 17 [some (.ref 103), some (w_i l1), some (w_i l2), some (w_i l3), some (w_i l4), u5] [] [] I J b Q := by
  refine w_iload (q := 19) rfl rfl rfl ?_
  refine w_aload_n (q := 20) rfl rfl rfl ?_
  refine w_gfr (q := 23) rfl rfl rfl rfl (j := 78) rfl ?_
  refine w_gfr (q := 26) rfl rfl rfl rfl (j := 2) rfl ?_
  refine w_gfi (q := 29) (k' := 5) (v := I 2 5) rfl rfl rfl rfl rfl rfl rfl ?_
  obtain ⟨h1, h2, k⟩ := k
  refine w_cge (t := 91) (q := 32) rfl rfl rfl h1 h2 (fun c3 => ?_) (fun c3 => ?_)
  · replace k := k.1 c3
    refine w_iload_n (q := 92) rfl rfl rfl ?_
    refine w_iconst (q := 93) rfl rfl ?_
    obtain ⟨h4, k⟩ := k
    refine w_cne (t := 104) (q := 96) rfl rfl rfl h4 (by decide) (fun c5 => ?_) (fun c5 => ?_)
    · replace k := k.1 c5
      refine w_aload_n (q := 105) rfl rfl rfl ?_
      refine w_gfr (q := 108) rfl rfl rfl rfl (j := 78) rfl ?_
      refine w_gfr (q := 111) rfl rfl rfl rfl (j := 20) rfl ?_
      refine w_iload_n (q := 112) rfl rfl rfl ?_
      refine w_iload_n (q := 113) rfl rfl rfl ?_
      refine w_callv (q := 116) rfl rfl rfl rfl rfl rfl ?_
      exact k
    · replace k := k.2 c5
      refine w_aload_n (q := 97) rfl rfl rfl ?_
      refine w_iload_n (q := 98) rfl rfl rfl ?_
      refine w_callv (q := 101) rfl rfl rfl rfl rfl rfl ?_
      exact k
  · replace k := k.2 c3
    refine w_aload_n (q := 33) rfl rfl rfl ?_
    refine w_gfr (q := 36) rfl rfl rfl rfl (j := 78) rfl ?_
    refine w_gfr (q := 39) rfl rfl rfl rfl (j := 20) rfl ?_
    refine w_gfr (q := 42) rfl rfl rfl rfl (j := 30) rfl ?_
    refine w_iload (q := 44) rfl rfl rfl ?_
    obtain ⟨h6, k⟩ := k
    refine w_iald (q := 45) (n := 24) (v := I 30 l4) rfl rfl rfl rfl rfl rfl h6 ?_
    refine w_iconst (q := 46) rfl rfl ?_
    obtain ⟨h7, k⟩ := k
    refine w_cne (t := 53) (q := 49) rfl rfl rfl h7 (by decide) (fun c8 => ?_) (fun c8 => ?_)
    · replace k := k.1 c8
      refine w_iconst (q := 54) rfl rfl ?_
      refine w_istore (q := 56) (L' := [some (.ref 103), some (w_i l1), some (w_i l2), some (w_i l3), some (w_i l4), some (w_i 0)]) (M' := []) rfl rfl rfl rfl rfl ?_
      refine w_iload (q := 58) rfl rfl rfl ?_
      refine w_zeq (t := 85) (q := 61) rfl rfl rfl (by decide) (fun _ => ?_) (fun w => absurd w (by decide))
      refine w_iinc (q := 88) (L' := [some (.ref 103), some (w_i l1), some (w_i l2), some (w_i l3), some (w_i (l4 + 1)), some (w_i 0)]) (M' := []) rfl rfl rfl rfl rfl rfl ?_
      refine w_goto (t := 17) rfl rfl ?_
      exact k
    · replace k := k.2 c8
      refine w_iconst (q := 50) rfl rfl ?_
      refine w_goto (t := 54) rfl rfl ?_
      refine w_istore (q := 56) (L' := [some (.ref 103), some (w_i l1), some (w_i l2), some (w_i l3), some (w_i l4), some (w_i 1)]) (M' := []) rfl rfl rfl rfl rfl ?_
      refine w_iload (q := 58) rfl rfl rfl ?_
      refine w_zeq (t := 85) (q := 61) rfl rfl rfl (by decide) (fun w => absurd w (by decide)) (fun _ => ?_)
      refine w_iload_n (q := 62) rfl rfl rfl ?_
      refine w_iconst (q := 63) rfl rfl ?_
      obtain ⟨h9, k⟩ := k
      refine w_ceq (t := 82) (q := 66) rfl rfl rfl h9 (by decide) (fun c10 => ?_) (fun c10 => ?_)
      · replace k := k.1 c10
        refine w_iload (q := 84) rfl rfl rfl ?_
        refine w_istore_n (q := 85) (L' := [some (.ref 103), some (w_i l1), some (w_i l2), some (w_i l4), some (w_i l4), some (w_i 1)]) (M' := []) rfl rfl rfl rfl rfl ?_
        refine w_iinc (q := 88) (L' := [some (.ref 103), some (w_i l1), some (w_i l2), some (w_i l4), some (w_i (l4 + 1)), some (w_i 1)]) (M' := []) rfl rfl rfl rfl rfl rfl ?_
        refine w_goto (t := 17) rfl rfl ?_
        exact k
      · replace k := k.2 c10
        refine w_iload (q := 68) rfl rfl rfl ?_
        refine w_iload_n (q := 69) rfl rfl rfl ?_
        refine w_isub (q := 70) rfl rfl ?_
        obtain ⟨h11, k⟩ := k
        refine w_abs (q := 73) rfl rfl rfl h11 ?_
        refine w_iload_n (q := 74) rfl rfl rfl ?_
        refine w_iload_n (q := 75) rfl rfl rfl ?_
        refine w_isub (q := 76) rfl rfl ?_
        obtain ⟨h12, k⟩ := k
        refine w_abs (q := 79) rfl rfl rfl h12 ?_
        obtain ⟨h13, h14, k⟩ := k
        refine w_cge (t := 85) (q := 82) rfl rfl rfl h13 h14 (fun c15 => ?_) (fun c15 => ?_)
        · replace k := k.1 c15
          refine w_iinc (q := 88) (L' := [some (.ref 103), some (w_i l1), some (w_i l2), some (w_i l3), some (w_i (l4 + 1)), some (w_i 1)]) (M' := []) rfl rfl rfl rfl rfl rfl ?_
          refine w_goto (t := 17) rfl rfl ?_
          exact k
        · replace k := k.2 c15
          refine w_iload (q := 84) rfl rfl rfl ?_
          refine w_istore_n (q := 85) (L' := [some (.ref 103), some (w_i l1), some (w_i l2), some (w_i l4), some (w_i l4), some (w_i 1)]) (M' := []) rfl rfl rfl rfl rfl ?_
          refine w_iinc (q := 88) (L' := [some (.ref 103), some (w_i l1), some (w_i l2), some (w_i l4), some (w_i (l4 + 1)), some (w_i 1)]) (M' := []) rfl rfl rfl rfl rfl rfl ?_
          refine w_goto (t := 17) rfl rfl ?_
          exact k
theorem b46_116 {xs : Nat → Int32} {xl : Nat} {I J : w_I} {b : Bool} {Q : Option Value → w_I → w_I → Bool → Prop} {u1 u2 u3 u4 u5 : Option Value} (k : Q none I J b) : w_T xs xl 46 116 [some (.ref 103), u1, u2, u3, u4, u5] [] [] I J b Q := by
  exact w_vret rfl k
theorem b46_101 {xs : Nat → Int32} {xl : Nat} {I J : w_I} {b : Bool} {Q : Option Value → w_I → w_I → Bool → Prop} {u1 u2 u3 u4 u5 : Option Value} (k : Q none I J b) : w_T xs xl 46 101 [some (.ref 103), u1, u2, u3, u4, u5] [] [] I J b Q := by
  refine w_goto (t := 116) rfl rfl ?_
  exact w_vret rfl k
theorem e47 {xs : Nat → Int32} {xl : Nat} {I J : w_I} {b : Bool} {Q : Option Value → w_I → w_I → Bool → Prop} {a1 : Int} (t : w_T xs xl 47 0 [some (.ref 103), some (w_i a1), none, none, none] [] [] I J b Q) : w_C xs xl 47 [.ref 103, w_i a1] I J b Q := w_en rfl t
theorem b47_0 {xs : Nat → Int32} {xl : Nat} {I J : w_I} {b : Bool} {Q : Option Value → w_I → w_I → Bool → Prop} {a1 : Int} (k : w_C xs xl 21 [.ref 78] I J b (fun v Ic Jc bc => w_T xs xl 47 7 [some (.ref 103), some (w_i a1), none, none, none] [] (w_pv v []) Ic Jc bc Q)) : w_T xs xl 47 0 [some (.ref 103), some (w_i a1), none, none, none] [] [] I J b Q := by
  refine w_aload_n (q := 1) rfl rfl rfl ?_
  refine w_gfr (q := 4) rfl rfl rfl rfl (j := 78) rfl ?_
  refine w_callv (q := 7) rfl rfl rfl rfl rfl rfl ?_
  exact k
theorem b47_7 {xs : Nat → Int32} {xl : Nat} {I J : w_I} {b : Bool} {Q : Option Value → w_I → w_I → Bool → Prop} {l1 : Int} {u2 u3 u4 : Option Value} (k : w_T xs xl 47 11 [some (.ref 103), some (w_i l1), some (w_i 0), some (w_i 0), u4] [] [] I J b Q) : w_T xs xl 47 7 [some (.ref 103), some (w_i l1), u2, u3, u4] [] [] I J b Q := by
  refine w_iconst (q := 8) rfl rfl ?_
  refine w_istore_n (q := 9) (L' := [some (.ref 103), some (w_i l1), some (w_i 0), u3, u4]) (M' := []) rfl rfl rfl rfl rfl ?_
  refine w_iconst (q := 10) rfl rfl ?_
  refine w_istore_n (q := 11) (L' := [some (.ref 103), some (w_i l1), some (w_i 0), some (w_i 0), u4]) (M' := []) rfl rfl rfl rfl rfl ?_
  exact k
theorem b47_11 {xs : Nat → Int32} {xl : Nat} {I J : w_I} {b : Bool} {Q : Option Value → w_I → w_I → Bool → Prop} {l1 l2 l3 : Int} {u4 : Option Value} (k : ((-2147483648 ≤ l3 ∧ l3 < 2147483648) ∧ (-2147483648 ≤ I 2 5 ∧ I 2 5 < 2147483648) ∧ ((I 2 5 ≤ l3 → Q (some (w_i l2)) I J b) ∧ (¬ I 2 5 ≤ l3 → ((0 ≤ l3 ∧ l3 < 24) ∧ ((-2147483648 ≤ I 30 l3 ∧ I 30 l3 < 2147483648) ∧ ((I 30 l3 = (-1) → w_T xs xl 47 11 [some (.ref 103), some (w_i l1), some (w_i l2), some (w_i (l3 + 1)), some (w_i (I 30 l3))] [] [] I J b Q) ∧ (¬ I 30 l3 = (-1) → ((0 ≤ I 30 l3 ∧ I 30 l3 < 30) ∧ ((0 ≤ l1 ∧ l1 < 30) ∧ ((-2147483648 ≤ I 83 (I 30 l3) ∧ I 83 (I 30 l3) < 2147483648) ∧ (-2147483648 ≤ I 83 l1 ∧ I 83 l1 < 2147483648) ∧ ((I 83 l1 < I 83 (I 30 l3) → w_T xs xl 47 11 [some (.ref 103), some (w_i l1), some (w_i l2), some (w_i (l3 + 1)), some (w_i (I 30 l3))] [] [] I J b Q) ∧ (¬ I 83 l1 < I 83 (I 30 l3) → w_T xs xl 47 11 [some (.ref 103), some (w_i l1), some (w_i (l2 + 1)), some (w_i (l3 + 1)), some (w_i (I 30 l3))] [] [] I J b Q))))))))))))) : w_T xs xl 47 11 [some (.ref 103), some (w_i l1), some (w_i l2), some (w_i l3), u4] [] [] I J b Q := by
  refine w_iload_n (q := 12) rfl rfl rfl ?_
  refine w_aload_n (q := 13) rfl rfl rfl ?_
  refine w_gfr (q := 16) rfl rfl rfl rfl (j := 78) rfl ?_
  refine w_gfr (q := 19) rfl rfl rfl rfl (j := 2) rfl ?_
  refine w_gfi (q := 22) (k' := 5) (v := I 2 5) rfl rfl rfl rfl rfl rfl rfl ?_
  obtain ⟨h1, h2, k⟩ := k
  refine w_cge (t := 76) (q := 25) rfl rfl rfl h1 h2 (fun c3 => ?_) (fun c3 => ?_)
  · replace k := k.1 c3
    refine w_iload_n (q := 77) rfl rfl rfl ?_
    exact w_iret rfl rfl k
  · replace k := k.2 c3
    refine w_aload_n (q := 26) rfl rfl rfl ?_
    refine w_gfr (q := 29) rfl rfl rfl rfl (j := 78) rfl ?_
    refine w_gfr (q := 32) rfl rfl rfl rfl (j := 20) rfl ?_
    refine w_gfr (q := 35) rfl rfl rfl rfl (j := 30) rfl ?_
    refine w_iload_n (q := 36) rfl rfl rfl ?_
    obtain ⟨h4, k⟩ := k
    refine w_iald (q := 37) (n := 24) (v := I 30 l3) rfl rfl rfl rfl rfl rfl h4 ?_
    refine w_istore (q := 39) (L' := [some (.ref 103), some (w_i l1), some (w_i l2), some (w_i l3), some (w_i (I 30 l3))]) (M' := []) rfl rfl rfl rfl rfl ?_
    refine w_iload (q := 41) rfl rfl rfl ?_
    refine w_iconst (q := 42) rfl rfl ?_
    obtain ⟨h5, k⟩ := k
    refine w_ceq (t := 70) (q := 45) rfl rfl rfl h5 (by decide) (fun c6 => ?_) (fun c6 => ?_)
    · replace k := k.1 c6
      refine w_iinc (q := 73) (L' := [some (.ref 103), some (w_i l1), some (w_i l2), some (w_i (l3 + 1)), some (w_i (I 30 l3))]) (M' := []) rfl rfl rfl rfl rfl rfl ?_
      refine w_goto (t := 11) rfl rfl ?_
      exact k
    · replace k := k.2 c6
      refine w_aload_n (q := 46) rfl rfl rfl ?_
      refine w_gfr (q := 49) rfl rfl rfl rfl (j := 78) rfl ?_
      refine w_gfr (q := 52) rfl rfl rfl rfl (j := 83) rfl ?_
      refine w_iload (q := 54) rfl rfl rfl ?_
      obtain ⟨h7, k⟩ := k
      refine w_iald (q := 55) (n := 30) (v := I 83 (I 30 l3)) rfl rfl rfl rfl rfl rfl h7 ?_
      refine w_aload_n (q := 56) rfl rfl rfl ?_
      refine w_gfr (q := 59) rfl rfl rfl rfl (j := 78) rfl ?_
      refine w_gfr (q := 62) rfl rfl rfl rfl (j := 83) rfl ?_
      refine w_iload_n (q := 63) rfl rfl rfl ?_
      obtain ⟨h8, k⟩ := k
      refine w_iald (q := 64) (n := 30) (v := I 83 l1) rfl rfl rfl rfl rfl rfl h8 ?_
      obtain ⟨h9, h10, k⟩ := k
      refine w_cgt (t := 70) (q := 67) rfl rfl rfl h9 h10 (fun c11 => ?_) (fun c11 => ?_)
      · replace k := k.1 c11
        refine w_iinc (q := 73) (L' := [some (.ref 103), some (w_i l1), some (w_i l2), some (w_i (l3 + 1)), some (w_i (I 30 l3))]) (M' := []) rfl rfl rfl rfl rfl rfl ?_
        refine w_goto (t := 11) rfl rfl ?_
        exact k
      · replace k := k.2 c11
        refine w_iinc (q := 70) (L' := [some (.ref 103), some (w_i l1), some (w_i (l2 + 1)), some (w_i l3), some (w_i (I 30 l3))]) (M' := []) rfl rfl rfl rfl rfl rfl ?_
        refine w_iinc (q := 73) (L' := [some (.ref 103), some (w_i l1), some (w_i (l2 + 1)), some (w_i (l3 + 1)), some (w_i (I 30 l3))]) (M' := []) rfl rfl rfl rfl rfl rfl ?_
        refine w_goto (t := 11) rfl rfl ?_
        exact k
theorem e48 {xs : Nat → Int32} {xl : Nat} {I J : w_I} {b : Bool} {Q : Option Value → w_I → w_I → Bool → Prop} {a1 : Int} (t : w_T xs xl 48 0 [some (.ref 103), some (w_i a1), none, none, none] [] [] I J b Q) : w_C xs xl 48 [.ref 103, w_i a1] I J b Q := w_en rfl t
theorem b48_0 {xs : Nat → Int32} {xl : Nat} {I J : w_I} {b : Bool} {Q : Option Value → w_I → w_I → Bool → Prop} {a1 : Int} (k : w_C xs xl 21 [.ref 78] I J b (fun v Ic Jc bc => w_T xs xl 48 7 [some (.ref 103), some (w_i a1), none, none, none] [] (w_pv v []) Ic Jc bc Q)) : w_T xs xl 48 0 [some (.ref 103), some (w_i a1), none, none, none] [] [] I J b Q := by
  refine w_aload_n (q := 1) rfl rfl rfl ?_
  refine w_gfr (q := 4) rfl rfl rfl rfl (j := 78) rfl ?_
  refine w_callv (q := 7) rfl rfl rfl rfl rfl rfl ?_
  exact k
theorem b48_7 {xs : Nat → Int32} {xl : Nat} {I J : w_I} {b : Bool} {Q : Option Value → w_I → w_I → Bool → Prop} {l1 : Int} {u2 u3 u4 : Option Value} (k : w_C xs xl 23 [.ref 78, w_i l1] I J b (fun v Ic Jc bc => w_T xs xl 48 15 [some (.ref 103), some (w_i l1), u2, u3, u4] [] (w_pv v []) Ic Jc bc Q)) : w_T xs xl 48 7 [some (.ref 103), some (w_i l1), u2, u3, u4] [] [] I J b Q := by
  refine w_aload_n (q := 8) rfl rfl rfl ?_
  refine w_gfr (q := 11) rfl rfl rfl rfl (j := 78) rfl ?_
  refine w_iload_n (q := 12) rfl rfl rfl ?_
  refine w_callv (q := 15) rfl rfl rfl rfl rfl rfl ?_
  exact k
theorem b48_15 {xs : Nat → Int32} {xl : Nat} {I J : w_I} {b : Bool} {Q : Option Value → w_I → w_I → Bool → Prop} {l1 : Int} {u2 u3 u4 : Option Value} (k : ((-2147483648 ≤ I 78 6 ∧ I 78 6 < 2147483648) ∧ (-2147483648 ≤ I 2 5 ∧ I 2 5 < 2147483648) ∧ ((I 78 6 ≤ I 2 5 → w_C xs xl 3 [.ref 20] I J b (fun v Ic Jc bc => w_T xs xl 48 77 [some (.ref 103), some (w_i l1), some (w_i (I 2 5 - I 78 6)), u3, u4] [] (w_pv v []) Ic Jc bc Q)) ∧ (¬ I 78 6 ≤ I 2 5 → w_C xs xl 44 [.ref 103, w_i l1] I J b (fun v Ic Jc bc => w_T xs xl 48 40 [some (.ref 103), some (w_i l1), u2, u3, u4] [] (w_pv v []) Ic Jc bc Q))))) : w_T xs xl 48 15 [some (.ref 103), some (w_i l1), u2, u3, u4] [] [] I J b Q := by
  refine w_aload_n (q := 16) rfl rfl rfl ?_
  refine w_gfr (q := 19) rfl rfl rfl rfl (j := 78) rfl ?_
  refine w_gfi (q := 22) (k' := 6) (v := I 78 6) rfl rfl rfl rfl rfl rfl rfl ?_
  refine w_aload_n (q := 23) rfl rfl rfl ?_
  refine w_gfr (q := 26) rfl rfl rfl rfl (j := 78) rfl ?_
  refine w_gfr (q := 29) rfl rfl rfl rfl (j := 2) rfl ?_
  refine w_gfi (q := 32) (k' := 5) (v := I 2 5) rfl rfl rfl rfl rfl rfl rfl ?_
  obtain ⟨h1, h2, k⟩ := k
  refine w_cle (t := 48) (q := 35) rfl rfl rfl h1 h2 (fun c3 => ?_) (fun c3 => ?_)
  · replace k := k.1 c3
    refine w_aload_n (q := 49) rfl rfl rfl ?_
    refine w_gfr (q := 52) rfl rfl rfl rfl (j := 78) rfl ?_
    refine w_gfr (q := 55) rfl rfl rfl rfl (j := 2) rfl ?_
    refine w_gfi (q := 58) (k' := 5) (v := I 2 5) rfl rfl rfl rfl rfl rfl rfl ?_
    refine w_aload_n (q := 59) rfl rfl rfl ?_
    refine w_gfr (q := 62) rfl rfl rfl rfl (j := 78) rfl ?_
    refine w_gfi (q := 65) (k' := 6) (v := I 78 6) rfl rfl rfl rfl rfl rfl rfl ?_
    refine w_isub (q := 66) rfl rfl ?_
    refine w_istore_n (q := 67) (L' := [some (.ref 103), some (w_i l1), some (w_i (I 2 5 - I 78 6)), u3, u4]) (M' := []) rfl rfl rfl rfl rfl ?_
    refine w_aload_n (q := 68) rfl rfl rfl ?_
    refine w_gfr (q := 71) rfl rfl rfl rfl (j := 78) rfl ?_
    refine w_gfr (q := 74) rfl rfl rfl rfl (j := 20) rfl ?_
    refine w_callv (q := 77) rfl rfl rfl rfl rfl rfl ?_
    exact k
  · replace k := k.2 c3
    refine w_aload_n (q := 36) rfl rfl rfl ?_
    refine w_iload_n (q := 37) rfl rfl rfl ?_
    refine w_callv (q := 40) rfl rfl rfl rfl rfl rfl ?_
    exact k
theorem b48_77 {xs : Nat → Int32} {xl : Nat} {I J : w_I} {b : Bool} {Q : Option Value → w_I → w_I → Bool → Prop} {l1 l2 : Int} {u3 u4 : Option Value} (k : w_T xs xl 48 79 [some (.ref 103), some (w_i l1), some (w_i l2), some (w_i 0), u4] [] [] I J b Q) : w_T xs xl 48 77 [some (.ref 103), some (w_i l1), some (w_i l2), u3, u4] [] [] I J b Q := by
  refine w_iconst (q := 78) rfl rfl ?_
  refine w_istore_n (q := 79) (L' := [some (.ref 103), some (w_i l1), some (w_i l2), some (w_i 0), u4]) (M' := []) rfl rfl rfl rfl rfl ?_
  exact k
theorem b48_40 {xs : Nat → Int32} {xl : Nat} {I J : w_I} {b : Bool} {Q : Option Value → w_I → w_I → Bool → Prop} {l1 : Int} {u2 u3 u4 : Option Value} (k : w_C xs xl 23 [.ref 78, w_i (-1)] I J b (fun v Ic Jc bc => w_T xs xl 48 48 [some (.ref 103), some (w_i l1), u2, u3, u4] [] (w_pv v []) Ic Jc bc Q)) : w_T xs xl 48 40 [some (.ref 103), some (w_i l1), u2, u3, u4] [] [] I J b Q := by
  refine w_aload_n (q := 41) rfl rfl rfl ?_
  refine w_gfr (q := 44) rfl rfl rfl rfl (j := 78) rfl ?_
  refine w_iconst (q := 45) rfl rfl ?_
  refine w_callv (q := 48) rfl rfl rfl rfl rfl rfl ?_
  exact k
theorem b48_79 {xs : Nat → Int32} {xl : Nat} {I J : w_I} {b : Bool} {Q : Option Value → w_I → w_I → Bool → Prop} {l1 l2 l3 : Int} {u4 : Option Value} (k : ((-2147483648 ≤ l3 ∧ l3 < 2147483648) ∧ (-2147483648 ≤ I 78 6 ∧ I 78 6 < 2147483648) ∧ ((I 78 6 ≤ l3 → Q none I J b) ∧ (¬ I 78 6 ≤ l3 → ((0 ≤ l3 ∧ l3 < 25) ∧ ((-2147483648 ≤ I 84 l3 ∧ I 84 l3 < 2147483648) ∧ (-2147483648 ≤ l1 ∧ l1 < 2147483648) ∧ ((I 84 l3 = l1 → ((0 ≤ I 84 l3 ∧ I 84 l3 < 30) ∧ ((0 ≤ l2 + l3 ∧ l2 + l3 < 24) ∧ w_T xs xl 48 79 [some (.ref 103), some (w_i l1), some (w_i l2), some (w_i (l3 + 1)), some (w_i (I 84 l3))] [] [] (w_U (w_U I 28 (I 84 l3) (l2 + l3)) 30 (l2 + l3) (I 84 l3)) J b Q))) ∧ (¬ I 84 l3 = l1 → ((0 ≤ I 84 l3 ∧ I 84 l3 < 30) ∧ ((-2147483648 ≤ I 28 (I 84 l3) ∧ I 28 (I 84 l3) < 2147483648) ∧ (-2147483648 ≤ l2 + l3 ∧ l2 + l3 < 2147483648) ∧ ((I 28 (I 84 l3) = l2 + l3 → ((0 ≤ l2 + l3 ∧ l2 + l3 < 24) ∧ w_T xs xl 48 79 [some (.ref 103), some (w_i l1), some (w_i l2), some (w_i (l3 + 1)), some (w_i (I 84 l3))] [] [] (w_U (w_U I 28 (I 84 l3) (l2 + l3)) 30 (l2 + l3) (I 84 l3)) J b Q)) ∧ (¬ I 28 (I 84 l3) = l2 + l3 → ((0 ≤ l2 + l3 ∧ l2 + l3 < 24) ∧ w_T xs xl 48 79 [some (.ref 103), some (w_i l1), some (w_i l2), some (w_i (l3 + 1)), some (w_i (I 84 l3))] [] [] (w_U (w_U (w_U I 103 3 (I 103 3 + 1)) 28 (I 84 l3) (l2 + l3)) 30 (l2 + l3) (I 84 l3)) J b Q))))))))))))) : w_T xs xl 48 79 [some (.ref 103), some (w_i l1), some (w_i l2), some (w_i l3), u4] [] [] I J b Q := by
  refine w_iload_n (q := 80) rfl rfl rfl ?_
  refine w_aload_n (q := 81) rfl rfl rfl ?_
  refine w_gfr (q := 84) rfl rfl rfl rfl (j := 78) rfl ?_
  refine w_gfi (q := 87) (k' := 6) (v := I 78 6) rfl rfl rfl rfl rfl rfl rfl ?_
  obtain ⟨h1, h2, k⟩ := k
  refine w_cge (t := 174) (q := 90) rfl rfl rfl h1 h2 (fun c3 => ?_) (fun c3 => ?_)
  · replace k := k.1 c3
    exact w_vret rfl k
  · replace k := k.2 c3
    refine w_aload_n (q := 91) rfl rfl rfl ?_
    refine w_gfr (q := 94) rfl rfl rfl rfl (j := 78) rfl ?_
    refine w_gfr (q := 97) rfl rfl rfl rfl (j := 84) rfl ?_
    refine w_iload_n (q := 98) rfl rfl rfl ?_
    obtain ⟨h4, k⟩ := k
    refine w_iald (q := 99) (n := 25) (v := I 84 l3) rfl rfl rfl rfl rfl rfl h4 ?_
    refine w_istore (q := 101) (L' := [some (.ref 103), some (w_i l1), some (w_i l2), some (w_i l3), some (w_i (I 84 l3))]) (M' := []) rfl rfl rfl rfl rfl ?_
    refine w_iload (q := 103) rfl rfl rfl ?_
    refine w_iload_n (q := 104) rfl rfl rfl ?_
    obtain ⟨h5, h6, k⟩ := k
    refine w_ceq (t := 136) (q := 107) rfl rfl rfl h5 h6 (fun c7 => ?_) (fun c7 => ?_)
    · replace k := k.1 c7
      refine w_aload_n (q := 137) rfl rfl rfl ?_
      refine w_gfr (q := 140) rfl rfl rfl rfl (j := 78) rfl ?_
      refine w_gfr (q := 143) rfl rfl rfl rfl (j := 20) rfl ?_
      refine w_gfr (q := 146) rfl rfl rfl rfl (j := 28) rfl ?_
      refine w_iload (q := 148) rfl rfl rfl ?_
      refine w_iload_n (q := 149) rfl rfl rfl ?_
      refine w_iload_n (q := 150) rfl rfl rfl ?_
      refine w_iadd (q := 151) rfl rfl ?_
      obtain ⟨h8, k⟩ := k
      refine w_iast (q := 152) (n := 30) rfl rfl rfl rfl rfl h8 ?_
      refine w_aload_n (q := 153) rfl rfl rfl ?_
      refine w_gfr (q := 156) rfl rfl rfl rfl (j := 78) rfl ?_
      refine w_gfr (q := 159) rfl rfl rfl rfl (j := 20) rfl ?_
      refine w_gfr (q := 162) rfl rfl rfl rfl (j := 30) rfl ?_
      refine w_iload_n (q := 163) rfl rfl rfl ?_
      refine w_iload_n (q := 164) rfl rfl rfl ?_
      refine w_iadd (q := 165) rfl rfl ?_
      refine w_iload (q := 167) rfl rfl rfl ?_
      obtain ⟨h9, k⟩ := k
      refine w_iast (q := 168) (n := 24) rfl rfl rfl rfl rfl h9 ?_
      refine w_iinc (q := 171) (L' := [some (.ref 103), some (w_i l1), some (w_i l2), some (w_i (l3 + 1)), some (w_i (I 84 l3))]) (M' := []) rfl rfl rfl rfl rfl rfl ?_
      refine w_goto (t := 79) rfl rfl ?_
      exact k
    · replace k := k.2 c7
      refine w_aload_n (q := 108) rfl rfl rfl ?_
      refine w_gfr (q := 111) rfl rfl rfl rfl (j := 78) rfl ?_
      refine w_gfr (q := 114) rfl rfl rfl rfl (j := 20) rfl ?_
      refine w_gfr (q := 117) rfl rfl rfl rfl (j := 28) rfl ?_
      refine w_iload (q := 119) rfl rfl rfl ?_
      obtain ⟨h10, k⟩ := k
      refine w_iald (q := 120) (n := 30) (v := I 28 (I 84 l3)) rfl rfl rfl rfl rfl rfl h10 ?_
      refine w_iload_n (q := 121) rfl rfl rfl ?_
      refine w_iload_n (q := 122) rfl rfl rfl ?_
      refine w_iadd (q := 123) rfl rfl ?_
      obtain ⟨h11, h12, k⟩ := k
      refine w_ceq (t := 136) (q := 126) rfl rfl rfl h11 h12 (fun c13 => ?_) (fun c13 => ?_)
      · replace k := k.1 c13
        refine w_aload_n (q := 137) rfl rfl rfl ?_
        refine w_gfr (q := 140) rfl rfl rfl rfl (j := 78) rfl ?_
        refine w_gfr (q := 143) rfl rfl rfl rfl (j := 20) rfl ?_
        refine w_gfr (q := 146) rfl rfl rfl rfl (j := 28) rfl ?_
        refine w_iload (q := 148) rfl rfl rfl ?_
        refine w_iload_n (q := 149) rfl rfl rfl ?_
        refine w_iload_n (q := 150) rfl rfl rfl ?_
        refine w_iadd (q := 151) rfl rfl ?_
        refine w_iast (q := 152) (n := 30) rfl rfl rfl rfl rfl h10 ?_
        refine w_aload_n (q := 153) rfl rfl rfl ?_
        refine w_gfr (q := 156) rfl rfl rfl rfl (j := 78) rfl ?_
        refine w_gfr (q := 159) rfl rfl rfl rfl (j := 20) rfl ?_
        refine w_gfr (q := 162) rfl rfl rfl rfl (j := 30) rfl ?_
        refine w_iload_n (q := 163) rfl rfl rfl ?_
        refine w_iload_n (q := 164) rfl rfl rfl ?_
        refine w_iadd (q := 165) rfl rfl ?_
        refine w_iload (q := 167) rfl rfl rfl ?_
        obtain ⟨h14, k⟩ := k
        refine w_iast (q := 168) (n := 24) rfl rfl rfl rfl rfl h14 ?_
        refine w_iinc (q := 171) (L' := [some (.ref 103), some (w_i l1), some (w_i l2), some (w_i (l3 + 1)), some (w_i (I 84 l3))]) (M' := []) rfl rfl rfl rfl rfl rfl ?_
        refine w_goto (t := 79) rfl rfl ?_
        exact k
      · replace k := k.2 c13
        refine w_aload_n (q := 127) rfl rfl rfl ?_
        refine w_dup (q := 128) rfl rfl rfl ?_
        refine w_gfi (q := 131) (k' := 3) (v := I 103 3) rfl rfl rfl rfl rfl rfl rfl ?_
        refine w_iconst (q := 132) rfl rfl ?_
        refine w_iadd (q := 133) rfl rfl ?_
        refine w_pfi (q := 136) (k' := 3) rfl rfl rfl rfl ?_
        refine w_aload_n (q := 137) rfl rfl rfl ?_
        refine w_gfr (q := 140) rfl rfl rfl rfl (j := 78) rfl ?_
        refine w_gfr (q := 143) rfl rfl rfl rfl (j := 20) rfl ?_
        refine w_gfr (q := 146) rfl rfl rfl rfl (j := 28) rfl ?_
        refine w_iload (q := 148) rfl rfl rfl ?_
        refine w_iload_n (q := 149) rfl rfl rfl ?_
        refine w_iload_n (q := 150) rfl rfl rfl ?_
        refine w_iadd (q := 151) rfl rfl ?_
        refine w_iast (q := 152) (n := 30) rfl rfl rfl rfl rfl h10 ?_
        refine w_aload_n (q := 153) rfl rfl rfl ?_
        refine w_gfr (q := 156) rfl rfl rfl rfl (j := 78) rfl ?_
        refine w_gfr (q := 159) rfl rfl rfl rfl (j := 20) rfl ?_
        refine w_gfr (q := 162) rfl rfl rfl rfl (j := 30) rfl ?_
        refine w_iload_n (q := 163) rfl rfl rfl ?_
        refine w_iload_n (q := 164) rfl rfl rfl ?_
        refine w_iadd (q := 165) rfl rfl ?_
        refine w_iload (q := 167) rfl rfl rfl ?_
        obtain ⟨h15, k⟩ := k
        refine w_iast (q := 168) (n := 24) rfl rfl rfl rfl rfl h15 ?_
        refine w_iinc (q := 171) (L' := [some (.ref 103), some (w_i l1), some (w_i l2), some (w_i (l3 + 1)), some (w_i (I 84 l3))]) (M' := []) rfl rfl rfl rfl rfl rfl ?_
        refine w_goto (t := 79) rfl rfl ?_
        exact k
theorem b48_48 {xs : Nat → Int32} {xl : Nat} {I J : w_I} {b : Bool} {Q : Option Value → w_I → w_I → Bool → Prop} {l1 : Int} {u2 u3 u4 : Option Value} (k : w_C xs xl 3 [.ref 20] I J b (fun v Ic Jc bc => w_T xs xl 48 77 [some (.ref 103), some (w_i l1), some (w_i (I 2 5 - I 78 6)), u3, u4] [] (w_pv v []) Ic Jc bc Q)) : w_T xs xl 48 48 [some (.ref 103), some (w_i l1), u2, u3, u4] [] [] I J b Q := by
  refine w_aload_n (q := 49) rfl rfl rfl ?_
  refine w_gfr (q := 52) rfl rfl rfl rfl (j := 78) rfl ?_
  refine w_gfr (q := 55) rfl rfl rfl rfl (j := 2) rfl ?_
  refine w_gfi (q := 58) (k' := 5) (v := I 2 5) rfl rfl rfl rfl rfl rfl rfl ?_
  refine w_aload_n (q := 59) rfl rfl rfl ?_
  refine w_gfr (q := 62) rfl rfl rfl rfl (j := 78) rfl ?_
  refine w_gfi (q := 65) (k' := 6) (v := I 78 6) rfl rfl rfl rfl rfl rfl rfl ?_
  refine w_isub (q := 66) rfl rfl ?_
  refine w_istore_n (q := 67) (L' := [some (.ref 103), some (w_i l1), some (w_i (I 2 5 - I 78 6)), u3, u4]) (M' := []) rfl rfl rfl rfl rfl ?_
  refine w_aload_n (q := 68) rfl rfl rfl ?_
  refine w_gfr (q := 71) rfl rfl rfl rfl (j := 78) rfl ?_
  refine w_gfr (q := 74) rfl rfl rfl rfl (j := 20) rfl ?_
  refine w_callv (q := 77) rfl rfl rfl rfl rfl rfl ?_
  exact k
theorem e50 {xs : Nat → Int32} {xl : Nat} {I J : w_I} {b : Bool} {Q : Option Value → w_I → w_I → Bool → Prop} (t : w_T xs xl 50 0 [some (.ref 100)] [] [] I J b Q) : w_C xs xl 50 [.ref 100] I J b Q := w_en rfl t
theorem b50_0 {xs : Nat → Int32} {xl : Nat} {I J : w_I} {b : Bool} {Q : Option Value → w_I → w_I → Bool → Prop} (k : w_C xs xl 4 [.ref 20, .ref 34] I J b (fun v Ic Jc bc => w_T xs xl 50 14 [some (.ref 100)] [] (w_pv v []) Ic Jc bc Q)) : w_T xs xl 50 0 [some (.ref 100)] [] [] I J b Q := by
  refine w_aload_n (q := 1) rfl rfl rfl ?_
  refine w_gfr (q := 4) rfl rfl rfl rfl (j := 78) rfl ?_
  refine w_gfr (q := 7) rfl rfl rfl rfl (j := 20) rfl ?_
  refine w_aload_n (q := 8) rfl rfl rfl ?_
  refine w_gfr (q := 11) rfl rfl rfl rfl (j := 34) rfl ?_
  refine w_callv (q := 14) rfl rfl rfl rfl rfl rfl ?_
  exact k
theorem b50_14 {xs : Nat → Int32} {xl : Nat} {I J : w_I} {b : Bool} {Q : Option Value → w_I → w_I → Bool → Prop} (k : Q none I J b) : w_T xs xl 50 14 [some (.ref 100)] [] [] I J b Q := by
  exact w_vret rfl k
theorem e51 {xs : Nat → Int32} {xl : Nat} {I J : w_I} {b : Bool} {Q : Option Value → w_I → w_I → Bool → Prop} (t : w_T xs xl 51 0 [some (.ref 100), none, none, none, none, none] [] [] I J b Q) : w_C xs xl 51 [.ref 100] I J b Q := w_en rfl t
theorem b51_0 {xs : Nat → Int32} {xl : Nat} {I J : w_I} {b : Bool} {Q : Option Value → w_I → w_I → Bool → Prop} (k : w_C xs xl 4 [.ref 34, .ref 20] I J b (fun v Ic Jc bc => w_T xs xl 51 16 [some (.ref 100), some (.ref 20), none, none, none, none] [] (w_pv v []) Ic Jc bc Q)) : w_T xs xl 51 0 [some (.ref 100), none, none, none, none, none] [] [] I J b Q := by
  refine w_aload_n (q := 1) rfl rfl rfl ?_
  refine w_gfr (q := 4) rfl rfl rfl rfl (j := 78) rfl ?_
  refine w_gfr (q := 7) rfl rfl rfl rfl (j := 20) rfl ?_
  refine w_astore_n (q := 8) (L' := [some (.ref 100), some (.ref 20), none, none, none, none]) (M' := []) rfl rfl rfl rfl rfl rfl ?_
  refine w_aload_n (q := 9) rfl rfl rfl ?_
  refine w_gfr (q := 12) rfl rfl rfl rfl (j := 34) rfl ?_
  refine w_aload_n (q := 13) rfl rfl rfl ?_
  refine w_callv (q := 16) rfl rfl rfl rfl rfl rfl ?_
  exact k
theorem b51_16 {xs : Nat → Int32} {xl : Nat} {I J : w_I} {b : Bool} {Q : Option Value → w_I → w_I → Bool → Prop} {u2 u3 u4 u5 : Option Value} (k : w_C xs xl 21 [.ref 78] I J b (fun v Ic Jc bc => w_T xs xl 51 23 [some (.ref 100), some (.ref 20), u2, u3, u4, u5] [] (w_pv v []) Ic Jc bc Q)) : w_T xs xl 51 16 [some (.ref 100), some (.ref 20), u2, u3, u4, u5] [] [] I J b Q := by
  refine w_aload_n (q := 17) rfl rfl rfl ?_
  refine w_gfr (q := 20) rfl rfl rfl rfl (j := 78) rfl ?_
  refine w_callv (q := 23) rfl rfl rfl rfl rfl rfl ?_
  exact k
theorem b51_23 {xs : Nat → Int32} {xl : Nat} {I J : w_I} {b : Bool} {Q : Option Value → w_I → w_I → Bool → Prop} {u2 u3 u4 u5 : Option Value} (k : w_C xs xl 52 [.ref 100] I J b (fun v Ic Jc bc => w_T xs xl 51 27 [some (.ref 100), some (.ref 20), u2, u3, u4, u5] [] (w_pv v []) Ic Jc bc Q)) : w_T xs xl 51 23 [some (.ref 100), some (.ref 20), u2, u3, u4, u5] [] [] I J b Q := by
  refine w_aload_n (q := 24) rfl rfl rfl ?_
  refine w_callv (q := 27) rfl rfl rfl rfl rfl rfl ?_
  exact k
theorem b51_27 {xs : Nat → Int32} {xl : Nat} {I J : w_I} {b : Bool} {Q : Option Value → w_I → w_I → Bool → Prop} {u2 u3 u4 u5 : Option Value} (k : w_T xs xl 51 36 [some (.ref 100), some (.ref 20), some (w_i 0), some (w_i 0), u4, u5] [] [] (w_U I 100 3 0) J b Q) : w_T xs xl 51 27 [some (.ref 100), some (.ref 20), u2, u3, u4, u5] [] [] I J b Q := by
  refine w_aload_n (q := 28) rfl rfl rfl ?_
  refine w_iconst (q := 29) rfl rfl ?_
  refine w_pfi (q := 32) (k' := 3) rfl rfl rfl rfl ?_
  refine w_iconst (q := 33) rfl rfl ?_
  refine w_istore_n (q := 34) (L' := [some (.ref 100), some (.ref 20), some (w_i 0), u3, u4, u5]) (M' := []) rfl rfl rfl rfl rfl ?_
  refine w_iconst (q := 35) rfl rfl ?_
  refine w_istore_n (q := 36) (L' := [some (.ref 100), some (.ref 20), some (w_i 0), some (w_i 0), u4, u5]) (M' := []) rfl rfl rfl rfl rfl ?_
  exact k
theorem b51_36 {xs : Nat → Int32} {xl : Nat} {I J : w_I} {b : Bool} {Q : Option Value → w_I → w_I → Bool → Prop} {l2 l3 : Int} {u4 u5 : Option Value} (k : ((-2147483648 ≤ l3 ∧ l3 < 2147483648) ∧ (-2147483648 ≤ I 20 16 ∧ I 20 16 < 2147483648) ∧ ((I 20 16 ≤ l3 → Q (some (w_i 0)) I J b) ∧ (¬ I 20 16 ≤ l3 → ((0 ≤ l3 ∧ l3 < 40) ∧ w_C xs xl 53 [.ref 100, w_i (I 101 l3), w_i l2] I J b (fun v Ic Jc bc => w_T xs xl 51 59 [some (.ref 100), some (.ref 20), some (w_i l2), some (w_i l3), some (w_i (I 101 l3)), u5] [] (w_pv v []) Ic Jc bc Q)))))) : w_T xs xl 51 36 [some (.ref 100), some (.ref 20), some (w_i l2), some (w_i l3), u4, u5] [] [] I J b Q := by
  refine w_iload_n (q := 37) rfl rfl rfl ?_
  refine w_aload_n (q := 38) rfl rfl rfl ?_
  refine w_gfi (q := 41) (k' := 16) (v := I 20 16) rfl rfl rfl rfl rfl rfl rfl ?_
  obtain ⟨h1, h2, k⟩ := k
  refine w_cge (t := 187) (q := 44) rfl rfl rfl h1 h2 (fun c3 => ?_) (fun c3 => ?_)
  · replace k := k.1 c3
    refine w_iconst (q := 188) rfl rfl ?_
    exact w_iret rfl rfl k
  · replace k := k.2 c3
    refine w_aload_n (q := 45) rfl rfl rfl ?_
    refine w_gfr (q := 48) rfl rfl rfl rfl (j := 101) rfl ?_
    refine w_iload_n (q := 49) rfl rfl rfl ?_
    obtain ⟨h4, k⟩ := k
    refine w_iald (q := 50) (n := 40) (v := I 101 l3) rfl rfl rfl rfl rfl rfl h4 ?_
    refine w_istore (q := 52) (L' := [some (.ref 100), some (.ref 20), some (w_i l2), some (w_i l3), some (w_i (I 101 l3)), u5]) (M' := []) rfl rfl rfl rfl rfl ?_
    refine w_aload_n (q := 53) rfl rfl rfl ?_
    refine w_iload (q := 55) rfl rfl rfl ?_
    refine w_iload_n (q := 56) rfl rfl rfl ?_
    refine w_callv (q := 59) rfl rfl rfl rfl rfl rfl ?_
    exact k
theorem b51_59 {xs : Nat → Int32} {xl : Nat} {I J : w_I} {b : Bool} {Q : Option Value → w_I → w_I → Bool → Prop} {l2 l3 l4 s0 : Int} {u5 : Option Value} (k : ((-2147483648 ≤ s0 ∧ s0 < 2147483648) ∧ ((s0 = 0 → ((0 ≤ l4 ∧ l4 < 40) ∧ w_C xs xl 29 [.ref 78, w_i (I 32 l4), w_i (I 33 l4)] I J b (fun v Ic Jc bc => w_T xs xl 51 101 [some (.ref 100), some (.ref 20), some (w_i l2), some (w_i l3), some (w_i l4), some (w_i s0)] [] (w_pv v [w_i (I 100 3), .ref 100]) Ic Jc bc Q))) ∧ (¬ s0 = 0 → Q (some (w_i (10 * l4 + s0))) I J b)))) : w_T xs xl 51 59 [some (.ref 100), some (.ref 20), some (w_i l2), some (w_i l3), some (w_i l4), u5] [] [w_i s0] I J b Q := by
  refine w_istore (q := 61) (L' := [some (.ref 100), some (.ref 20), some (w_i l2), some (w_i l3), some (w_i l4), some (w_i s0)]) (M' := []) rfl rfl rfl rfl rfl ?_
  refine w_iload (q := 63) rfl rfl rfl ?_
  obtain ⟨h1, k⟩ := k
  refine w_zeq (t := 75) (q := 66) rfl rfl rfl h1 (fun c2 => ?_) (fun c2 => ?_)
  · replace k := k.1 c2
    refine w_aload_n (q := 76) rfl rfl rfl ?_
    refine w_dup (q := 77) rfl rfl rfl ?_
    refine w_gfi (q := 80) (k' := 3) (v := I 100 3) rfl rfl rfl rfl rfl rfl rfl ?_
    refine w_aload_n (q := 81) rfl rfl rfl ?_
    refine w_gfr (q := 84) rfl rfl rfl rfl (j := 78) rfl ?_
    refine w_aload_n (q := 85) rfl rfl rfl ?_
    refine w_gfr (q := 88) rfl rfl rfl rfl (j := 32) rfl ?_
    refine w_iload (q := 90) rfl rfl rfl ?_
    obtain ⟨h3, k⟩ := k
    refine w_iald (q := 91) (n := 40) (v := I 32 l4) rfl rfl rfl rfl rfl rfl h3 ?_
    refine w_aload_n (q := 92) rfl rfl rfl ?_
    refine w_gfr (q := 95) rfl rfl rfl rfl (j := 33) rfl ?_
    refine w_iload (q := 97) rfl rfl rfl ?_
    refine w_iald (q := 98) (n := 40) (v := I 33 l4) rfl rfl rfl rfl rfl rfl h3 ?_
    refine w_callv (q := 101) rfl rfl rfl rfl rfl rfl ?_
    exact k
  · replace k := k.2 c2
    refine w_bipush (q := 68) rfl rfl rfl ?_
    refine w_iload (q := 70) rfl rfl rfl ?_
    refine w_imul (q := 71) rfl rfl ?_
    refine w_iload (q := 73) rfl rfl rfl ?_
    refine w_iadd (q := 74) rfl rfl ?_
    exact w_iret rfl rfl k
theorem b51_101 {xs : Nat → Int32} {xl : Nat} {I J : w_I} {b : Bool} {Q : Option Value → w_I → w_I → Bool → Prop} {l2 l3 l4 s1 s2 : Int} {u5 : Option Value} (k : ((0 ≤ l4 ∧ l4 < 40) ∧ w_C xs xl 16 [.ref 20, w_i (I 32 l4), w_i (I 33 l4)] (w_U I 100 3 (s1 + s2)) J b (fun v Ic Jc bc => w_T xs xl 51 123 [some (.ref 100), some (.ref 20), some (w_i l2), some (w_i l3), some (w_i l4), u5] [] (w_pv v []) Ic Jc bc Q))) : w_T xs xl 51 101 [some (.ref 100), some (.ref 20), some (w_i l2), some (w_i l3), some (w_i l4), u5] [] [w_i s2, w_i s1, .ref 100] I J b Q := by
  refine w_iadd (q := 102) rfl rfl ?_
  refine w_pfi (q := 105) (k' := 3) rfl rfl rfl rfl ?_
  refine w_aload_n (q := 106) rfl rfl rfl ?_
  refine w_aload_n (q := 107) rfl rfl rfl ?_
  refine w_gfr (q := 110) rfl rfl rfl rfl (j := 32) rfl ?_
  refine w_iload (q := 112) rfl rfl rfl ?_
  obtain ⟨h1, k⟩ := k
  refine w_iald (q := 113) (n := 40) (v := I 32 l4) rfl rfl rfl rfl rfl rfl h1 ?_
  refine w_aload_n (q := 114) rfl rfl rfl ?_
  refine w_gfr (q := 117) rfl rfl rfl rfl (j := 33) rfl ?_
  refine w_iload (q := 119) rfl rfl rfl ?_
  refine w_iald (q := 120) (n := 40) (v := I 33 l4) rfl rfl rfl rfl rfl rfl h1 ?_
  refine w_callv (q := 123) rfl rfl rfl rfl rfl rfl ?_
  exact k
theorem b51_123 {xs : Nat → Int32} {xl : Nat} {I J : w_I} {b : Bool} {Q : Option Value → w_I → w_I → Bool → Prop} {l2 l3 l4 : Int} {u5 : Option Value} (k : ((-2147483648 ≤ l3 + 1 ∧ l3 + 1 < 2147483648) ∧ (-2147483648 ≤ I 20 16 ∧ I 20 16 < 2147483648) ∧ ((l3 + 1 = I 20 16 → w_C xs xl 25 [.ref 78, w_i 0] I J b (fun v Ic Jc bc => w_T xs xl 51 169 [some (.ref 100), some (.ref 20), some (w_i 0), some (w_i l3), some (w_i l4), u5] [] (w_pv v []) Ic Jc bc Q)) ∧ (¬ l3 + 1 = I 20 16 → ((0 ≤ l3 + 1 ∧ l3 + 1 < 40) ∧ ((0 ≤ I 101 (l3 + 1) ∧ I 101 (l3 + 1) < 40) ∧ ((0 ≤ l4 ∧ l4 < 40) ∧ ((-2147483648 ≤ I 31 (I 101 (l3 + 1)) ∧ I 31 (I 101 (l3 + 1)) < 2147483648) ∧ (-2147483648 ≤ I 31 l4 ∧ I 31 l4 < 2147483648) ∧ ((I 31 (I 101 (l3 + 1)) = I 31 l4 → w_T xs xl 51 36 [some (.ref 100), some (.ref 20), some (w_i (l2 + 1)), some (w_i (l3 + 1)), some (w_i l4), u5] [] [] I J b Q) ∧ (¬ I 31 (I 101 (l3 + 1)) = I 31 l4 → w_C xs xl 25 [.ref 78, w_i 0] I J b (fun v Ic Jc bc => w_T xs xl 51 169 [some (.ref 100), some (.ref 20), some (w_i 0), some (w_i l3), some (w_i l4), u5] [] (w_pv v []) Ic Jc bc Q))))))))))) : w_T xs xl 51 123 [some (.ref 100), some (.ref 20), some (w_i l2), some (w_i l3), some (w_i l4), u5] [] [] I J b Q := by
  refine w_iinc (q := 126) (L' := [some (.ref 100), some (.ref 20), some (w_i (l2 + 1)), some (w_i l3), some (w_i l4), u5]) (M' := []) rfl rfl rfl rfl rfl rfl ?_
  refine w_iload_n (q := 127) rfl rfl rfl ?_
  refine w_iconst (q := 128) rfl rfl ?_
  refine w_iadd (q := 129) rfl rfl ?_
  refine w_aload_n (q := 130) rfl rfl rfl ?_
  refine w_gfi (q := 133) (k' := 16) (v := I 20 16) rfl rfl rfl rfl rfl rfl rfl ?_
  obtain ⟨h1, h2, k⟩ := k
  refine w_ceq (t := 159) (q := 136) rfl rfl rfl h1 h2 (fun c3 => ?_) (fun c3 => ?_)
  · replace k := k.1 c3
    refine w_iconst (q := 160) rfl rfl ?_
    refine w_istore_n (q := 161) (L' := [some (.ref 100), some (.ref 20), some (w_i 0), some (w_i l3), some (w_i l4), u5]) (M' := []) rfl rfl rfl rfl rfl ?_
    refine w_aload_n (q := 162) rfl rfl rfl ?_
    refine w_gfr (q := 165) rfl rfl rfl rfl (j := 78) rfl ?_
    refine w_iconst (q := 166) rfl rfl ?_
    refine w_callv (q := 169) rfl rfl rfl rfl rfl rfl ?_
    exact k
  · replace k := k.2 c3
    refine w_aload_n (q := 137) rfl rfl rfl ?_
    refine w_gfr (q := 140) rfl rfl rfl rfl (j := 31) rfl ?_
    refine w_aload_n (q := 141) rfl rfl rfl ?_
    refine w_gfr (q := 144) rfl rfl rfl rfl (j := 101) rfl ?_
    refine w_iload_n (q := 145) rfl rfl rfl ?_
    refine w_iconst (q := 146) rfl rfl ?_
    refine w_iadd (q := 147) rfl rfl ?_
    obtain ⟨h4, k⟩ := k
    refine w_iald (q := 148) (n := 40) (v := I 101 (l3 + 1)) rfl rfl rfl rfl rfl rfl h4 ?_
    obtain ⟨h5, k⟩ := k
    refine w_iald (q := 149) (n := 40) (v := I 31 (I 101 (l3 + 1))) rfl rfl rfl rfl rfl rfl h5 ?_
    refine w_aload_n (q := 150) rfl rfl rfl ?_
    refine w_gfr (q := 153) rfl rfl rfl rfl (j := 31) rfl ?_
    refine w_iload (q := 155) rfl rfl rfl ?_
    obtain ⟨h6, k⟩ := k
    refine w_iald (q := 156) (n := 40) (v := I 31 l4) rfl rfl rfl rfl rfl rfl h6 ?_
    obtain ⟨h7, h8, k⟩ := k
    refine w_ceq (t := 181) (q := 159) rfl rfl rfl h7 h8 (fun c9 => ?_) (fun c9 => ?_)
    · replace k := k.1 c9
      refine w_iinc (q := 184) (L' := [some (.ref 100), some (.ref 20), some (w_i (l2 + 1)), some (w_i (l3 + 1)), some (w_i l4), u5]) (M' := []) rfl rfl rfl rfl rfl rfl ?_
      refine w_goto (t := 36) rfl rfl ?_
      exact k
    · replace k := k.2 c9
      refine w_iconst (q := 160) rfl rfl ?_
      refine w_istore_n (q := 161) (L' := [some (.ref 100), some (.ref 20), some (w_i 0), some (w_i l3), some (w_i l4), u5]) (M' := []) rfl rfl rfl rfl rfl ?_
      refine w_aload_n (q := 162) rfl rfl rfl ?_
      refine w_gfr (q := 165) rfl rfl rfl rfl (j := 78) rfl ?_
      refine w_iconst (q := 166) rfl rfl ?_
      refine w_callv (q := 169) rfl rfl rfl rfl rfl rfl ?_
      exact k
theorem b51_169 {xs : Nat → Int32} {xl : Nat} {I J : w_I} {b : Bool} {Q : Option Value → w_I → w_I → Bool → Prop} {l2 l3 l4 s0 : Int} {u5 : Option Value} (k : ((-2147483648 ≤ s0 ∧ s0 < 2147483648) ∧ ((s0 = (-1) → w_T xs xl 51 36 [some (.ref 100), some (.ref 20), some (w_i l2), some (w_i (l3 + 1)), some (w_i l4), u5] [] [] I J b Q) ∧ (¬ s0 = (-1) → Q (some (w_i (10 * l4 + 4))) I J b)))) : w_T xs xl 51 169 [some (.ref 100), some (.ref 20), some (w_i l2), some (w_i l3), some (w_i l4), u5] [] [w_i s0] I J b Q := by
  refine w_iconst (q := 170) rfl rfl ?_
  obtain ⟨h1, k⟩ := k
  refine w_ceq (t := 181) (q := 173) rfl rfl rfl h1 (by decide) (fun c2 => ?_) (fun c2 => ?_)
  · replace k := k.1 c2
    refine w_iinc (q := 184) (L' := [some (.ref 100), some (.ref 20), some (w_i l2), some (w_i (l3 + 1)), some (w_i l4), u5]) (M' := []) rfl rfl rfl rfl rfl rfl ?_
    refine w_goto (t := 36) rfl rfl ?_
    exact k
  · replace k := k.2 c2
    refine w_bipush (q := 175) rfl rfl rfl ?_
    refine w_iload (q := 177) rfl rfl rfl ?_
    refine w_imul (q := 178) rfl rfl ?_
    refine w_iconst (q := 179) rfl rfl ?_
    refine w_iadd (q := 180) rfl rfl ?_
    exact w_iret rfl rfl k
theorem e52 {xs : Nat → Int32} {xl : Nat} {I J : w_I} {b : Bool} {Q : Option Value → w_I → w_I → Bool → Prop} (t : w_T xs xl 52 0 [some (.ref 100), none, none, none] [] [] I J b Q) : w_C xs xl 52 [.ref 100] I J b Q := w_en rfl t
theorem b52_0 {xs : Nat → Int32} {xl : Nat} {I J : w_I} {b : Bool} {Q : Option Value → w_I → w_I → Bool → Prop} (k : w_T xs xl 52 13 [some (.ref 100), some (.ref 31), some (w_i 0), none] [] [] I J b Q) : w_T xs xl 52 0 [some (.ref 100), none, none, none] [] [] I J b Q := by
  refine w_aload_n (q := 1) rfl rfl rfl ?_
  refine w_gfr (q := 4) rfl rfl rfl rfl (j := 78) rfl ?_
  refine w_gfr (q := 7) rfl rfl rfl rfl (j := 20) rfl ?_
  refine w_gfr (q := 10) rfl rfl rfl rfl (j := 31) rfl ?_
  refine w_astore_n (q := 11) (L' := [some (.ref 100), some (.ref 31), none, none]) (M' := []) rfl rfl rfl rfl rfl rfl ?_
  refine w_iconst (q := 12) rfl rfl ?_
  refine w_istore_n (q := 13) (L' := [some (.ref 100), some (.ref 31), some (w_i 0), none]) (M' := []) rfl rfl rfl rfl rfl ?_
  exact k
theorem b52_13 {xs : Nat → Int32} {xl : Nat} {I J : w_I} {b : Bool} {Q : Option Value → w_I → w_I → Bool → Prop} {l2 : Int} {u3 : Option Value} (k : ((-2147483648 ≤ l2 ∧ l2 < 2147483648) ∧ (-2147483648 ≤ I 20 16 ∧ I 20 16 < 2147483648) ∧ ((I 20 16 ≤ l2 → Q none I J b) ∧ (¬ I 20 16 ≤ l2 → w_T xs xl 52 29 [some (.ref 100), some (.ref 31), some (w_i l2), some (w_i l2)] [] [] I J b Q)))) : w_T xs xl 52 13 [some (.ref 100), some (.ref 31), some (w_i l2), u3] [] [] I J b Q := by
  refine w_iload_n (q := 14) rfl rfl rfl ?_
  refine w_aload_n (q := 15) rfl rfl rfl ?_
  refine w_gfr (q := 18) rfl rfl rfl rfl (j := 78) rfl ?_
  refine w_gfr (q := 21) rfl rfl rfl rfl (j := 20) rfl ?_
  refine w_gfi (q := 24) (k' := 16) (v := I 20 16) rfl rfl rfl rfl rfl rfl rfl ?_
  obtain ⟨h1, h2, k⟩ := k
  refine w_cge (t := 82) (q := 27) rfl rfl rfl h1 h2 (fun c3 => ?_) (fun c3 => ?_)
  · replace k := k.1 c3
    exact w_vret rfl k
  · replace k := k.2 c3
    refine w_iload_n (q := 28) rfl rfl rfl ?_
    refine w_istore_n (q := 29) (L' := [some (.ref 100), some (.ref 31), some (w_i l2), some (w_i l2)]) (M' := []) rfl rfl rfl rfl rfl ?_
    exact k
theorem b52_29 {xs : Nat → Int32} {xl : Nat} {I J : w_I} {b : Bool} {Q : Option Value → w_I → w_I → Bool → Prop} {l2 l3 : Int} (k : ((-2147483648 ≤ l3 ∧ l3 < 2147483648) ∧ ((l3 ≤ 0 → ((0 ≤ l3 ∧ l3 < 40) ∧ w_T xs xl 52 13 [some (.ref 100), some (.ref 31), some (w_i (l2 + 1)), some (w_i l3)] [] [] (w_U I 101 l3 l2) J b Q)) ∧ (¬ l3 ≤ 0 → ((0 ≤ l3 - 1 ∧ l3 - 1 < 40) ∧ ((0 ≤ I 101 (l3 - 1) ∧ I 101 (l3 - 1) < 40) ∧ ((0 ≤ l2 ∧ l2 < 40) ∧ ((-2147483648 ≤ I 31 (I 101 (l3 - 1)) ∧ I 31 (I 101 (l3 - 1)) < 2147483648) ∧ (-2147483648 ≤ I 31 l2 ∧ I 31 l2 < 2147483648) ∧ ((I 31 (I 101 (l3 - 1)) ≤ I 31 l2 → ((0 ≤ l3 ∧ l3 < 40) ∧ w_T xs xl 52 13 [some (.ref 100), some (.ref 31), some (w_i (l2 + 1)), some (w_i l3)] [] [] (w_U I 101 l3 l2) J b Q)) ∧ (¬ I 31 (I 101 (l3 - 1)) ≤ I 31 l2 → ((0 ≤ l3 ∧ l3 < 40) ∧ w_T xs xl 52 29 [some (.ref 100), some (.ref 31), some (w_i l2), some (w_i (l3 + (-1)))] [] [] (w_U I 101 l3 (I 101 (l3 - 1))) J b Q))))))))))) : w_T xs xl 52 29 [some (.ref 100), some (.ref 31), some (w_i l2), some (w_i l3)] [] [] I J b Q := by
  refine w_iload_n (q := 30) rfl rfl rfl ?_
  obtain ⟨h1, k⟩ := k
  refine w_zle (t := 69) (q := 33) rfl rfl rfl h1 (fun c2 => ?_) (fun c2 => ?_)
  · replace k := k.1 c2
    refine w_aload_n (q := 70) rfl rfl rfl ?_
    refine w_gfr (q := 73) rfl rfl rfl rfl (j := 101) rfl ?_
    refine w_iload_n (q := 74) rfl rfl rfl ?_
    refine w_iload_n (q := 75) rfl rfl rfl ?_
    obtain ⟨h3, k⟩ := k
    refine w_iast (q := 76) (n := 40) rfl rfl rfl rfl rfl h3 ?_
    refine w_iinc (q := 79) (L' := [some (.ref 100), some (.ref 31), some (w_i (l2 + 1)), some (w_i l3)]) (M' := []) rfl rfl rfl rfl rfl rfl ?_
    refine w_goto (t := 13) rfl rfl ?_
    exact k
  · replace k := k.2 c2
    refine w_aload_n (q := 34) rfl rfl rfl ?_
    refine w_aload_n (q := 35) rfl rfl rfl ?_
    refine w_gfr (q := 38) rfl rfl rfl rfl (j := 101) rfl ?_
    refine w_iload_n (q := 39) rfl rfl rfl ?_
    refine w_iconst (q := 40) rfl rfl ?_
    refine w_isub (q := 41) rfl rfl ?_
    obtain ⟨h4, k⟩ := k
    refine w_iald (q := 42) (n := 40) (v := I 101 (l3 - 1)) rfl rfl rfl rfl rfl rfl h4 ?_
    obtain ⟨h5, k⟩ := k
    refine w_iald (q := 43) (n := 40) (v := I 31 (I 101 (l3 - 1))) rfl rfl rfl rfl rfl rfl h5 ?_
    refine w_aload_n (q := 44) rfl rfl rfl ?_
    refine w_iload_n (q := 45) rfl rfl rfl ?_
    obtain ⟨h6, k⟩ := k
    refine w_iald (q := 46) (n := 40) (v := I 31 l2) rfl rfl rfl rfl rfl rfl h6 ?_
    obtain ⟨h7, h8, k⟩ := k
    refine w_cle (t := 69) (q := 49) rfl rfl rfl h7 h8 (fun c9 => ?_) (fun c9 => ?_)
    · replace k := k.1 c9
      refine w_aload_n (q := 70) rfl rfl rfl ?_
      refine w_gfr (q := 73) rfl rfl rfl rfl (j := 101) rfl ?_
      refine w_iload_n (q := 74) rfl rfl rfl ?_
      refine w_iload_n (q := 75) rfl rfl rfl ?_
      obtain ⟨h10, k⟩ := k
      refine w_iast (q := 76) (n := 40) rfl rfl rfl rfl rfl h10 ?_
      refine w_iinc (q := 79) (L' := [some (.ref 100), some (.ref 31), some (w_i (l2 + 1)), some (w_i l3)]) (M' := []) rfl rfl rfl rfl rfl rfl ?_
      refine w_goto (t := 13) rfl rfl ?_
      exact k
    · replace k := k.2 c9
      refine w_aload_n (q := 50) rfl rfl rfl ?_
      refine w_gfr (q := 53) rfl rfl rfl rfl (j := 101) rfl ?_
      refine w_iload_n (q := 54) rfl rfl rfl ?_
      refine w_aload_n (q := 55) rfl rfl rfl ?_
      refine w_gfr (q := 58) rfl rfl rfl rfl (j := 101) rfl ?_
      refine w_iload_n (q := 59) rfl rfl rfl ?_
      refine w_iconst (q := 60) rfl rfl ?_
      refine w_isub (q := 61) rfl rfl ?_
      refine w_iald (q := 62) (n := 40) (v := I 101 (l3 - 1)) rfl rfl rfl rfl rfl rfl h4 ?_
      obtain ⟨h11, k⟩ := k
      refine w_iast (q := 63) (n := 40) rfl rfl rfl rfl rfl h11 ?_
      refine w_iinc (q := 66) (L' := [some (.ref 100), some (.ref 31), some (w_i l2), some (w_i (l3 + (-1)))]) (M' := []) rfl rfl rfl rfl rfl rfl ?_
      refine w_goto (t := 29) rfl rfl ?_
      exact k
theorem e53 {xs : Nat → Int32} {xl : Nat} {I J : w_I} {b : Bool} {Q : Option Value → w_I → w_I → Bool → Prop} {a1 a2 : Int} (t : w_T xs xl 53 0 [some (.ref 100), some (w_i a1), some (w_i a2), none] [] [] I J b Q) : w_C xs xl 53 [.ref 100, w_i a1, w_i a2] I J b Q := w_en rfl t
theorem b53_0 {xs : Nat → Int32} {xl : Nat} {I J : w_I} {b : Bool} {Q : Option Value → w_I → w_I → Bool → Prop} {a1 a2 : Int} (k : ((0 ≤ a1 ∧ a1 < 40) ∧ w_C xs xl 6 [.ref 20, w_i (I 32 a1)] I J b (fun v Ic Jc bc => w_T xs xl 53 24 [some (.ref 100), some (w_i a1), some (w_i a2), some (w_i (I 32 a1))] [] (w_pv v []) Ic Jc bc Q))) : w_T xs xl 53 0 [some (.ref 100), some (w_i a1), some (w_i a2), none] [] [] I J b Q := by
  refine w_aload_n (q := 1) rfl rfl rfl ?_
  refine w_gfr (q := 4) rfl rfl rfl rfl (j := 78) rfl ?_
  refine w_gfr (q := 7) rfl rfl rfl rfl (j := 20) rfl ?_
  refine w_gfr (q := 10) rfl rfl rfl rfl (j := 32) rfl ?_
  refine w_iload_n (q := 11) rfl rfl rfl ?_
  obtain ⟨h1, k⟩ := k
  refine w_iald (q := 12) (n := 40) (v := I 32 a1) rfl rfl rfl rfl rfl rfl h1 ?_
  refine w_istore_n (q := 13) (L' := [some (.ref 100), some (w_i a1), some (w_i a2), some (w_i (I 32 a1))]) (M' := []) rfl rfl rfl rfl rfl ?_
  refine w_aload_n (q := 14) rfl rfl rfl ?_
  refine w_gfr (q := 17) rfl rfl rfl rfl (j := 78) rfl ?_
  refine w_gfr (q := 20) rfl rfl rfl rfl (j := 20) rfl ?_
  refine w_iload_n (q := 21) rfl rfl rfl ?_
  refine w_callv (q := 24) rfl rfl rfl rfl rfl rfl ?_
  exact k
theorem b53_24 {xs : Nat → Int32} {xl : Nat} {I J : w_I} {b : Bool} {Q : Option Value → w_I → w_I → Bool → Prop} {l1 l2 l3 s0 : Int} (k : ((-2147483648 ≤ s0 ∧ s0 < 2147483648) ∧ ((s0 = 0 → Q (some (w_i 1)) I J b) ∧ (¬ s0 = 0 → ((0 ≤ l3 ∧ l3 < 30) ∧ ((-2147483648 ≤ I 28 l3 ∧ I 28 l3 < 2147483648) ∧ ((¬ I 28 l3 = (-1) → ((-2147483648 ≤ l2 ∧ l2 < 2147483648) ∧ (-2147483648 ≤ I 2 7 ∧ I 2 7 < 2147483648) ∧ ((l2 < I 2 7 → ((0 ≤ l1 ∧ l1 < 40) ∧ ((0 ≤ I 33 l1 ∧ I 33 l1 < 24) ∧ ((-2147483648 ≤ I 30 (I 33 l1) ∧ I 30 (I 33 l1) < 2147483648) ∧ ((I 30 (I 33 l1) = (-1) → Q (some (w_i 0)) I J b) ∧ (¬ I 30 (I 33 l1) = (-1) → Q (some (w_i 3)) I J b)))))) ∧ (¬ l2 < I 2 7 → Q (some (w_i 2)) I J b)))) ∧ (I 28 l3 = (-1) → Q (some (w_i 1)) I J b)))))))) : w_T xs xl 53 24 [some (.ref 100), some (w_i l1), some (w_i l2), some (w_i l3)] [] [w_i s0] I J b Q := by
  obtain ⟨h1, k⟩ := k
  refine w_zeq (t := 43) (q := 27) rfl rfl rfl h1 (fun c2 => ?_) (fun c2 => ?_)
  · replace k := k.1 c2
    refine w_iconst (q := 44) rfl rfl ?_
    exact w_iret rfl rfl k
  · replace k := k.2 c2
    refine w_aload_n (q := 28) rfl rfl rfl ?_
    refine w_gfr (q := 31) rfl rfl rfl rfl (j := 78) rfl ?_
    refine w_gfr (q := 34) rfl rfl rfl rfl (j := 20) rfl ?_
    refine w_gfr (q := 37) rfl rfl rfl rfl (j := 28) rfl ?_
    refine w_iload_n (q := 38) rfl rfl rfl ?_
    obtain ⟨h3, k⟩ := k
    refine w_iald (q := 39) (n := 30) (v := I 28 l3) rfl rfl rfl rfl rfl rfl h3 ?_
    refine w_iconst (q := 40) rfl rfl ?_
    obtain ⟨h4, k⟩ := k
    refine w_cne (t := 45) (q := 43) rfl rfl rfl h4 (by decide) (fun c5 => ?_) (fun c5 => ?_)
    · replace k := k.1 c5
      refine w_iload_n (q := 46) rfl rfl rfl ?_
      refine w_aload_n (q := 47) rfl rfl rfl ?_
      refine w_gfr (q := 50) rfl rfl rfl rfl (j := 78) rfl ?_
      refine w_gfr (q := 53) rfl rfl rfl rfl (j := 2) rfl ?_
      refine w_gfi (q := 56) (k' := 7) (v := I 2 7) rfl rfl rfl rfl rfl rfl rfl ?_
      obtain ⟨h6, h7, k⟩ := k
      refine w_clt (t := 61) (q := 59) rfl rfl rfl h6 h7 (fun c8 => ?_) (fun c8 => ?_)
      · replace k := k.1 c8
        refine w_aload_n (q := 62) rfl rfl rfl ?_
        refine w_gfr (q := 65) rfl rfl rfl rfl (j := 78) rfl ?_
        refine w_gfr (q := 68) rfl rfl rfl rfl (j := 20) rfl ?_
        refine w_gfr (q := 71) rfl rfl rfl rfl (j := 30) rfl ?_
        refine w_aload_n (q := 72) rfl rfl rfl ?_
        refine w_gfr (q := 75) rfl rfl rfl rfl (j := 78) rfl ?_
        refine w_gfr (q := 78) rfl rfl rfl rfl (j := 20) rfl ?_
        refine w_gfr (q := 81) rfl rfl rfl rfl (j := 33) rfl ?_
        refine w_iload_n (q := 82) rfl rfl rfl ?_
        obtain ⟨h9, k⟩ := k
        refine w_iald (q := 83) (n := 40) (v := I 33 l1) rfl rfl rfl rfl rfl rfl h9 ?_
        obtain ⟨h10, k⟩ := k
        refine w_iald (q := 84) (n := 24) (v := I 30 (I 33 l1)) rfl rfl rfl rfl rfl rfl h10 ?_
        refine w_iconst (q := 85) rfl rfl ?_
        obtain ⟨h11, k⟩ := k
        refine w_ceq (t := 92) (q := 88) rfl rfl rfl h11 (by decide) (fun c12 => ?_) (fun c12 => ?_)
        · replace k := k.1 c12
          refine w_iconst (q := 93) rfl rfl ?_
          exact w_iret rfl rfl k
        · replace k := k.2 c12
          refine w_iconst (q := 89) rfl rfl ?_
          refine w_goto (t := 93) rfl rfl ?_
          exact w_iret rfl rfl k
      · replace k := k.2 c8
        refine w_iconst (q := 60) rfl rfl ?_
        exact w_iret rfl rfl k
    · replace k := k.2 c5
      refine w_iconst (q := 44) rfl rfl ?_
      exact w_iret rfl rfl k
theorem e55 {xs : Nat → Int32} {xl : Nat} {I J : w_I} {b : Bool} {Q : Option Value → w_I → w_I → Bool → Prop} {a1 : Int} (t : w_T xs xl 55 0 [some (.ref 89), some (w_i a1)] [] [] I J b Q) : w_C xs xl 55 [.ref 89, w_i a1] I J b Q := w_en rfl t
theorem b55_0 {xs : Nat → Int32} {xl : Nat} {I J : w_I} {b : Bool} {Q : Option Value → w_I → w_I → Bool → Prop} {a1 : Int} (k : w_C xs xl 22 [.ref 78, w_i (I 2 10), w_i 0, w_i a1] I J b (fun v Ic Jc bc => w_T xs xl 55 19 [some (.ref 89), some (w_i a1)] [] (w_pv v []) Ic Jc bc Q)) : w_T xs xl 55 0 [some (.ref 89), some (w_i a1)] [] [] I J b Q := by
  refine w_aload_n (q := 1) rfl rfl rfl ?_
  refine w_gfr (q := 4) rfl rfl rfl rfl (j := 78) rfl ?_
  refine w_aload_n (q := 5) rfl rfl rfl ?_
  refine w_gfr (q := 8) rfl rfl rfl rfl (j := 78) rfl ?_
  refine w_gfr (q := 11) rfl rfl rfl rfl (j := 2) rfl ?_
  refine w_gfi (q := 14) (k' := 10) (v := I 2 10) rfl rfl rfl rfl rfl rfl rfl ?_
  refine w_iconst (q := 15) rfl rfl ?_
  refine w_iload_n (q := 16) rfl rfl rfl ?_
  refine w_callv (q := 19) rfl rfl rfl rfl rfl rfl ?_
  exact k
theorem b55_19 {xs : Nat → Int32} {xl : Nat} {I J : w_I} {b : Bool} {Q : Option Value → w_I → w_I → Bool → Prop} {u1 : Option Value} (k : w_C xs xl 23 [.ref 78, w_i (-1)] I J b (fun v Ic Jc bc => w_T xs xl 55 27 [some (.ref 89), u1] [] (w_pv v []) Ic Jc bc Q)) : w_T xs xl 55 19 [some (.ref 89), u1] [] [] I J b Q := by
  refine w_aload_n (q := 20) rfl rfl rfl ?_
  refine w_gfr (q := 23) rfl rfl rfl rfl (j := 78) rfl ?_
  refine w_iconst (q := 24) rfl rfl ?_
  refine w_callv (q := 27) rfl rfl rfl rfl rfl rfl ?_
  exact k
theorem b55_27 {xs : Nat → Int32} {xl : Nat} {I J : w_I} {b : Bool} {Q : Option Value → w_I → w_I → Bool → Prop} {u1 : Option Value} (k : w_C xs xl 60 [.ref 89, w_i (-1), w_i 0] I J b (fun v Ic Jc bc => w_T xs xl 55 33 [some (.ref 89), u1] [] (w_pv v []) Ic Jc bc Q)) : w_T xs xl 55 27 [some (.ref 89), u1] [] [] I J b Q := by
  refine w_aload_n (q := 28) rfl rfl rfl ?_
  refine w_iconst (q := 29) rfl rfl ?_
  refine w_iconst (q := 30) rfl rfl ?_
  refine w_callv (q := 33) rfl rfl rfl rfl rfl rfl ?_
  exact k
theorem b55_33 {xs : Nat → Int32} {xl : Nat} {I J : w_I} {b : Bool} {Q : Option Value → w_I → w_I → Bool → Prop} {u1 : Option Value} (k : w_C xs xl 62 [.ref 89, w_i (I 78 6), w_i 0, w_i (I 2 5 - I 78 6)] I J b (fun v Ic Jc bc => w_T xs xl 55 63 [some (.ref 89), u1] [] (w_pv v []) Ic Jc bc Q)) : w_T xs xl 55 33 [some (.ref 89), u1] [] [] I J b Q := by
  refine w_aload_n (q := 34) rfl rfl rfl ?_
  refine w_aload_n (q := 35) rfl rfl rfl ?_
  refine w_gfr (q := 38) rfl rfl rfl rfl (j := 78) rfl ?_
  refine w_gfi (q := 41) (k' := 6) (v := I 78 6) rfl rfl rfl rfl rfl rfl rfl ?_
  refine w_iconst (q := 42) rfl rfl ?_
  refine w_aload_n (q := 43) rfl rfl rfl ?_
  refine w_gfr (q := 46) rfl rfl rfl rfl (j := 78) rfl ?_
  refine w_gfr (q := 49) rfl rfl rfl rfl (j := 2) rfl ?_
  refine w_gfi (q := 52) (k' := 5) (v := I 2 5) rfl rfl rfl rfl rfl rfl rfl ?_
  refine w_aload_n (q := 53) rfl rfl rfl ?_
  refine w_gfr (q := 56) rfl rfl rfl rfl (j := 78) rfl ?_
  refine w_gfi (q := 59) (k' := 6) (v := I 78 6) rfl rfl rfl rfl rfl rfl rfl ?_
  refine w_isub (q := 60) rfl rfl ?_
  refine w_callv (q := 63) rfl rfl rfl rfl rfl rfl ?_
  exact k
theorem b55_63 {xs : Nat → Int32} {xl : Nat} {I J : w_I} {b : Bool} {Q : Option Value → w_I → w_I → Bool → Prop} {u1 : Option Value} {s0 : Int} (k : Q (some (w_i s0)) I J b) : w_T xs xl 55 63 [some (.ref 89), u1] [] [w_i s0] I J b Q := by
  exact w_iret rfl rfl k
theorem e56 {xs : Nat → Int32} {xl : Nat} {I J : w_I} {b : Bool} {Q : Option Value → w_I → w_I → Bool → Prop} (t : w_T xs xl 56 0 [some (.ref 89), none, none, none] [] [] I J b Q) : w_C xs xl 56 [.ref 89] I J b Q := w_en rfl t
theorem b56_0 {xs : Nat → Int32} {xl : Nat} {I J : w_I} {b : Bool} {Q : Option Value → w_I → w_I → Bool → Prop} (k : w_C xs xl 21 [.ref 78] I J b (fun v Ic Jc bc => w_T xs xl 56 7 [some (.ref 89), none, none, none] [] (w_pv v []) Ic Jc bc Q)) : w_T xs xl 56 0 [some (.ref 89), none, none, none] [] [] I J b Q := by
  refine w_aload_n (q := 1) rfl rfl rfl ?_
  refine w_gfr (q := 4) rfl rfl rfl rfl (j := 78) rfl ?_
  refine w_callv (q := 7) rfl rfl rfl rfl rfl rfl ?_
  exact k
theorem b56_7 {xs : Nat → Int32} {xl : Nat} {I J : w_I} {b : Bool} {Q : Option Value → w_I → w_I → Bool → Prop} {u1 u2 u3 : Option Value} (k : w_C xs xl 23 [.ref 78, w_i (-1)] I J b (fun v Ic Jc bc => w_T xs xl 56 15 [some (.ref 89), u1, u2, u3] [] (w_pv v []) Ic Jc bc Q)) : w_T xs xl 56 7 [some (.ref 89), u1, u2, u3] [] [] I J b Q := by
  refine w_aload_n (q := 8) rfl rfl rfl ?_
  refine w_gfr (q := 11) rfl rfl rfl rfl (j := 78) rfl ?_
  refine w_iconst (q := 12) rfl rfl ?_
  refine w_callv (q := 15) rfl rfl rfl rfl rfl rfl ?_
  exact k
theorem b56_15 {xs : Nat → Int32} {xl : Nat} {I J : w_I} {b : Bool} {Q : Option Value → w_I → w_I → Bool → Prop} {u1 u2 u3 : Option Value} (k : w_C xs xl 295 [.ref 90, w_i 0] I J b (fun v Ic Jc bc => w_T xs xl 56 23 [some (.ref 89), u1, u2, u3] [] (w_pv v []) Ic Jc bc Q)) : w_T xs xl 56 15 [some (.ref 89), u1, u2, u3] [] [] I J b Q := by
  refine w_aload_n (q := 16) rfl rfl rfl ?_
  refine w_gfr (q := 19) rfl rfl rfl rfl (j := 90) rfl ?_
  refine w_iconst (q := 20) rfl rfl ?_
  refine w_call (q := 23) rfl rfl rfl rfl rfl ?_
  exact k
theorem b56_23 {xs : Nat → Int32} {xl : Nat} {I J : w_I} {b : Bool} {Q : Option Value → w_I → w_I → Bool → Prop} {u1 u2 u3 : Option Value} (k : ((-2147483648 ≤ I 2 6 ∧ I 2 6 < 2147483648) ∧ w_T xs xl 56 42 [some (.ref 89), some (w_i 0), some (w_i (max 1 (I 2 6))), some (w_i 0)] [] [] I J b Q)) : w_T xs xl 56 23 [some (.ref 89), u1, u2, u3] [] [] I J b Q := by
  refine w_iconst (q := 24) rfl rfl ?_
  refine w_istore_n (q := 25) (L' := [some (.ref 89), some (w_i 0), u2, u3]) (M' := []) rfl rfl rfl rfl rfl ?_
  refine w_iconst (q := 26) rfl rfl ?_
  refine w_aload_n (q := 27) rfl rfl rfl ?_
  refine w_gfr (q := 30) rfl rfl rfl rfl (j := 78) rfl ?_
  refine w_gfr (q := 33) rfl rfl rfl rfl (j := 2) rfl ?_
  refine w_gfi (q := 36) (k' := 6) (v := I 2 6) rfl rfl rfl rfl rfl rfl rfl ?_
  obtain ⟨h1, k⟩ := k
  refine w_max (q := 39) rfl rfl rfl (by decide) h1 ?_
  refine w_istore_n (q := 40) (L' := [some (.ref 89), some (w_i 0), some (w_i (max 1 (I 2 6))), u3]) (M' := []) rfl rfl rfl rfl rfl ?_
  refine w_iconst (q := 41) rfl rfl ?_
  refine w_istore_n (q := 42) (L' := [some (.ref 89), some (w_i 0), some (w_i (max 1 (I 2 6))), some (w_i 0)]) (M' := []) rfl rfl rfl rfl rfl ?_
  exact k
theorem b56_42 {xs : Nat → Int32} {xl : Nat} {I J : w_I} {b : Bool} {Q : Option Value → w_I → w_I → Bool → Prop} {l1 l2 l3 : Int} (k : ((-2147483648 ≤ l3 ∧ l3 < 2147483648) ∧ ((99 < l3 → Q none I J b) ∧ (¬ 99 < l3 → w_T xs xl 56 48 [some (.ref 89), some (w_i l1), some (w_i l2), some (w_i l3)] [] [] I J b Q)))) : w_T xs xl 56 42 [some (.ref 89), some (w_i l1), some (w_i l2), some (w_i l3)] [] [] I J b Q := by
  refine w_iload_n (q := 43) rfl rfl rfl ?_
  refine w_bipush (q := 45) rfl rfl rfl ?_
  obtain ⟨h1, k⟩ := k
  refine w_cgt (t := 111) (q := 48) rfl rfl rfl h1 (by decide) (fun c2 => ?_) (fun c2 => ?_)
  · replace k := k.1 c2
    exact w_vret rfl k
  · replace k := k.2 c2
    exact k
theorem b56_48 {xs : Nat → Int32} {xl : Nat} {I J : w_I} {b : Bool} {Q : Option Value → w_I → w_I → Bool → Prop} {l1 l2 l3 : Int} (k : ((-2147483648 ≤ l1 ∧ l1 < 2147483648) ∧ (-2147483648 ≤ I 78 6 ∧ I 78 6 < 2147483648) ∧ ((I 78 6 ≤ l1 → ((0 ≤ l1 ∧ l1 < 25) ∧ w_C xs xl 31 [.ref 78, w_i l3] I J b (fun v Ic Jc bc => w_T xs xl 56 103 [some (.ref 89), some (w_i l1), some (w_i l2), some (w_i l3)] [] (w_pv v [w_i (I 90 l1), w_i l1, .ref 90]) Ic Jc bc Q))) ∧ (¬ I 78 6 ≤ l1 → ((0 ≤ l1 ∧ l1 < 25) ∧ ((0 ≤ I 84 l1 ∧ I 84 l1 < 30) ∧ (((0 : Int) ≤ l3 ∧ l3 < 2147483648 ∧ (0 : Int) < l2 ∧ l2 < (2147483648 : Int)) ∧ ((-2147483648 ≤ I 83 (I 84 l1) ∧ I 83 (I 84 l1) < 2147483648) ∧ (-2147483648 ≤ l3 / l2 ∧ l3 / l2 < 2147483648) ∧ ((l3 / l2 < I 83 (I 84 l1) → w_C xs xl 31 [.ref 78, w_i l3] I J b (fun v Ic Jc bc => w_T xs xl 56 103 [some (.ref 89), some (w_i l1), some (w_i l2), some (w_i l3)] [] (w_pv v [w_i (I 90 l1), w_i l1, .ref 90]) Ic Jc bc Q)) ∧ (¬ l3 / l2 < I 83 (I 84 l1) → w_T xs xl 56 48 [some (.ref 89), some (w_i (l1 + 1)), some (w_i l2), some (w_i l3)] [] [] I J b Q)))))))))) : w_T xs xl 56 48 [some (.ref 89), some (w_i l1), some (w_i l2), some (w_i l3)] [] [] I J b Q := by
  refine w_iload_n (q := 49) rfl rfl rfl ?_
  refine w_aload_n (q := 50) rfl rfl rfl ?_
  refine w_gfr (q := 53) rfl rfl rfl rfl (j := 78) rfl ?_
  refine w_gfi (q := 56) (k' := 6) (v := I 78 6) rfl rfl rfl rfl rfl rfl rfl ?_
  obtain ⟨h1, h2, k⟩ := k
  refine w_cge (t := 88) (q := 59) rfl rfl rfl h1 h2 (fun c3 => ?_) (fun c3 => ?_)
  · replace k := k.1 c3
    refine w_aload_n (q := 89) rfl rfl rfl ?_
    refine w_gfr (q := 92) rfl rfl rfl rfl (j := 90) rfl ?_
    refine w_iload_n (q := 93) rfl rfl rfl ?_
    refine w_dup2 (q := 94) rfl rfl rfl rfl ?_
    obtain ⟨h4, k⟩ := k
    refine w_iald (q := 95) (n := 25) (v := I 90 l1) rfl rfl rfl rfl rfl rfl h4 ?_
    refine w_aload_n (q := 96) rfl rfl rfl ?_
    refine w_gfr (q := 99) rfl rfl rfl rfl (j := 78) rfl ?_
    refine w_iload_n (q := 100) rfl rfl rfl ?_
    refine w_callv (q := 103) rfl rfl rfl rfl rfl rfl ?_
    exact k
  · replace k := k.2 c3
    refine w_aload_n (q := 60) rfl rfl rfl ?_
    refine w_gfr (q := 63) rfl rfl rfl rfl (j := 78) rfl ?_
    refine w_gfr (q := 66) rfl rfl rfl rfl (j := 83) rfl ?_
    refine w_aload_n (q := 67) rfl rfl rfl ?_
    refine w_gfr (q := 70) rfl rfl rfl rfl (j := 78) rfl ?_
    refine w_gfr (q := 73) rfl rfl rfl rfl (j := 84) rfl ?_
    refine w_iload_n (q := 74) rfl rfl rfl ?_
    obtain ⟨h5, k⟩ := k
    refine w_iald (q := 75) (n := 25) (v := I 84 l1) rfl rfl rfl rfl rfl rfl h5 ?_
    obtain ⟨h6, k⟩ := k
    refine w_iald (q := 76) (n := 30) (v := I 83 (I 84 l1)) rfl rfl rfl rfl rfl rfl h6 ?_
    refine w_iload_n (q := 77) rfl rfl rfl ?_
    refine w_iload_n (q := 78) rfl rfl rfl ?_
    obtain ⟨h7, k⟩ := k
    refine w_idiv (q := 79) rfl rfl h7 ?_
    obtain ⟨h8, h9, k⟩ := k
    refine w_cgt (t := 88) (q := 82) rfl rfl rfl h8 h9 (fun c10 => ?_) (fun c10 => ?_)
    · replace k := k.1 c10
      refine w_aload_n (q := 89) rfl rfl rfl ?_
      refine w_gfr (q := 92) rfl rfl rfl rfl (j := 90) rfl ?_
      refine w_iload_n (q := 93) rfl rfl rfl ?_
      refine w_dup2 (q := 94) rfl rfl rfl rfl ?_
      refine w_iald (q := 95) (n := 25) (v := I 90 l1) rfl rfl rfl rfl rfl rfl h5 ?_
      refine w_aload_n (q := 96) rfl rfl rfl ?_
      refine w_gfr (q := 99) rfl rfl rfl rfl (j := 78) rfl ?_
      refine w_iload_n (q := 100) rfl rfl rfl ?_
      refine w_callv (q := 103) rfl rfl rfl rfl rfl rfl ?_
      exact k
    · replace k := k.2 c10
      refine w_iinc (q := 85) (L' := [some (.ref 89), some (w_i (l1 + 1)), some (w_i l2), some (w_i l3)]) (M' := []) rfl rfl rfl rfl rfl rfl ?_
      refine w_goto (t := 48) rfl rfl ?_
      exact k
theorem b56_103 {xs : Nat → Int32} {xl : Nat} {I J : w_I} {b : Bool} {Q : Option Value → w_I → w_I → Bool → Prop} {l1 l2 l3 s1 s2 s3 : Int} (k : ((0 ≤ s1 ∧ s1 < 25) ∧ w_T xs xl 56 42 [some (.ref 89), some (w_i l1), some (w_i l2), some (w_i (l3 + 1))] [] [] (w_U I 90 s1 (s2 + s3)) J b Q)) : w_T xs xl 56 103 [some (.ref 89), some (w_i l1), some (w_i l2), some (w_i l3)] [] [w_i s3, w_i s2, w_i s1, .ref 90] I J b Q := by
  refine w_iadd (q := 104) rfl rfl ?_
  obtain ⟨h1, k⟩ := k
  refine w_iast (q := 105) (n := 25) rfl rfl rfl rfl rfl h1 ?_
  refine w_iinc (q := 108) (L' := [some (.ref 89), some (w_i l1), some (w_i l2), some (w_i (l3 + 1))]) (M' := []) rfl rfl rfl rfl rfl rfl ?_
  refine w_goto (t := 42) rfl rfl ?_
  exact k
theorem e57 {xs : Nat → Int32} {xl : Nat} {I J : w_I} {b : Bool} {Q : Option Value → w_I → w_I → Bool → Prop} (t : w_T xs xl 57 0 [some (.ref 89)] [] [] I J b Q) : w_C xs xl 57 [.ref 89] I J b Q := w_en rfl t
theorem b57_0 {xs : Nat → Int32} {xl : Nat} {I J : w_I} {b : Bool} {Q : Option Value → w_I → w_I → Bool → Prop} (k : w_C xs xl 60 [.ref 89, w_i (-1), w_i 0] I J b (fun v Ic Jc bc => w_T xs xl 57 6 [some (.ref 89)] [] (w_pv v []) Ic Jc bc Q)) : w_T xs xl 57 0 [some (.ref 89)] [] [] I J b Q := by
  refine w_aload_n (q := 1) rfl rfl rfl ?_
  refine w_iconst (q := 2) rfl rfl ?_
  refine w_iconst (q := 3) rfl rfl ?_
  refine w_callv (q := 6) rfl rfl rfl rfl rfl rfl ?_
  exact k
theorem b57_6 {xs : Nat → Int32} {xl : Nat} {I J : w_I} {b : Bool} {Q : Option Value → w_I → w_I → Bool → Prop} (k : w_C xs xl 61 [.ref 89, w_i (I 2 5)] I J b (fun v Ic Jc bc => w_T xs xl 57 20 [some (.ref 89)] [] (w_pv v []) Ic Jc bc Q)) : w_T xs xl 57 6 [some (.ref 89)] [] [] I J b Q := by
  refine w_aload_n (q := 7) rfl rfl rfl ?_
  refine w_aload_n (q := 8) rfl rfl rfl ?_
  refine w_gfr (q := 11) rfl rfl rfl rfl (j := 78) rfl ?_
  refine w_gfr (q := 14) rfl rfl rfl rfl (j := 2) rfl ?_
  refine w_gfi (q := 17) (k' := 5) (v := I 2 5) rfl rfl rfl rfl rfl rfl rfl ?_
  refine w_callv (q := 20) rfl rfl rfl rfl rfl rfl ?_
  exact k
theorem b57_20 {xs : Nat → Int32} {xl : Nat} {I J : w_I} {b : Bool} {Q : Option Value → w_I → w_I → Bool → Prop} {s0 : Int} (k : Q (some (w_i s0)) I J b) : w_T xs xl 57 20 [some (.ref 89)] [] [w_i s0] I J b Q := by
  exact w_iret rfl rfl k
theorem e58 {xs : Nat → Int32} {xl : Nat} {I J : w_I} {b : Bool} {Q : Option Value → w_I → w_I → Bool → Prop} (t : w_T xs xl 58 0 [some (.ref 89), none, none] [] [] I J b Q) : w_C xs xl 58 [.ref 89] I J b Q := w_en rfl t
theorem b58_0 {xs : Nat → Int32} {xl : Nat} {I J : w_I} {b : Bool} {Q : Option Value → w_I → w_I → Bool → Prop} (k : w_T xs xl 58 7 [some (.ref 89), some (w_i 0), none] [] [] (w_U I 89 4 (-1)) J b Q) : w_T xs xl 58 0 [some (.ref 89), none, none] [] [] I J b Q := by
  refine w_aload_n (q := 1) rfl rfl rfl ?_
  refine w_iconst (q := 2) rfl rfl ?_
  refine w_pfi (q := 5) (k' := 4) rfl rfl rfl rfl ?_
  refine w_iconst (q := 6) rfl rfl ?_
  refine w_istore_n (q := 7) (L' := [some (.ref 89), some (w_i 0), none]) (M' := []) rfl rfl rfl rfl rfl ?_
  exact k
theorem b58_7 {xs : Nat → Int32} {xl : Nat} {I J : w_I} {b : Bool} {Q : Option Value → w_I → w_I → Bool → Prop} {l1 : Int} {u2 : Option Value} (k : ((-2147483648 ≤ l1 ∧ l1 < 2147483648) ∧ (-2147483648 ≤ I 2 5 ∧ I 2 5 < 2147483648) ∧ ((I 2 5 < l1 → Q none I J b) ∧ (¬ I 2 5 < l1 → w_C xs xl 60 [.ref 89, w_i l1, w_i 1] I J b (fun v Ic Jc bc => w_T xs xl 58 27 [some (.ref 89), some (w_i l1), u2] [] (w_pv v []) Ic Jc bc Q))))) : w_T xs xl 58 7 [some (.ref 89), some (w_i l1), u2] [] [] I J b Q := by
  refine w_iload_n (q := 8) rfl rfl rfl ?_
  refine w_aload_n (q := 9) rfl rfl rfl ?_
  refine w_gfr (q := 12) rfl rfl rfl rfl (j := 78) rfl ?_
  refine w_gfr (q := 15) rfl rfl rfl rfl (j := 2) rfl ?_
  refine w_gfi (q := 18) (k' := 5) (v := I 2 5) rfl rfl rfl rfl rfl rfl rfl ?_
  obtain ⟨h1, h2, k⟩ := k
  refine w_cgt (t := 76) (q := 21) rfl rfl rfl h1 h2 (fun c3 => ?_) (fun c3 => ?_)
  · replace k := k.1 c3
    exact w_vret rfl k
  · replace k := k.2 c3
    refine w_aload_n (q := 22) rfl rfl rfl ?_
    refine w_iload_n (q := 23) rfl rfl rfl ?_
    refine w_iconst (q := 24) rfl rfl ?_
    refine w_callv (q := 27) rfl rfl rfl rfl rfl rfl ?_
    exact k
theorem b58_27 {xs : Nat → Int32} {xl : Nat} {I J : w_I} {b : Bool} {Q : Option Value → w_I → w_I → Bool → Prop} {l1 : Int} {u2 : Option Value} (k : w_C xs xl 61 [.ref 89, w_i (I 2 5 + 1)] I J b (fun v Ic Jc bc => w_T xs xl 58 43 [some (.ref 89), some (w_i l1), u2] [] (w_pv v []) Ic Jc bc Q)) : w_T xs xl 58 27 [some (.ref 89), some (w_i l1), u2] [] [] I J b Q := by
  refine w_aload_n (q := 28) rfl rfl rfl ?_
  refine w_aload_n (q := 29) rfl rfl rfl ?_
  refine w_gfr (q := 32) rfl rfl rfl rfl (j := 78) rfl ?_
  refine w_gfr (q := 35) rfl rfl rfl rfl (j := 2) rfl ?_
  refine w_gfi (q := 38) (k' := 5) (v := I 2 5) rfl rfl rfl rfl rfl rfl rfl ?_
  refine w_iconst (q := 39) rfl rfl ?_
  refine w_iadd (q := 40) rfl rfl ?_
  refine w_callv (q := 43) rfl rfl rfl rfl rfl rfl ?_
  exact k
theorem b58_43 {xs : Nat → Int32} {xl : Nat} {I J : w_I} {b : Bool} {Q : Option Value → w_I → w_I → Bool → Prop} {l1 s0 : Int} {u2 : Option Value} (k : ((-2147483648 ≤ I 89 4 ∧ I 89 4 < 2147483648) ∧ ((I 89 4 = (-1) → w_T xs xl 58 7 [some (.ref 89), some (w_i (l1 + 1)), some (w_i s0)] [] [] (w_U (w_U I 89 4 l1) 89 5 s0) J b Q) ∧ (¬ I 89 4 = (-1) → ((-2147483648 ≤ s0 ∧ s0 < 2147483648) ∧ (-2147483648 ≤ I 89 5 ∧ I 89 5 < 2147483648) ∧ ((I 89 5 ≤ s0 → w_T xs xl 58 7 [some (.ref 89), some (w_i (l1 + 1)), some (w_i s0)] [] [] I J b Q) ∧ (¬ I 89 5 ≤ s0 → w_T xs xl 58 7 [some (.ref 89), some (w_i (l1 + 1)), some (w_i s0)] [] [] (w_U (w_U I 89 4 l1) 89 5 s0) J b Q))))))) : w_T xs xl 58 43 [some (.ref 89), some (w_i l1), u2] [] [w_i s0] I J b Q := by
  refine w_istore_n (q := 44) (L' := [some (.ref 89), some (w_i l1), some (w_i s0)]) (M' := []) rfl rfl rfl rfl rfl ?_
  refine w_aload_n (q := 45) rfl rfl rfl ?_
  refine w_gfi (q := 48) (k' := 4) (v := I 89 4) rfl rfl rfl rfl rfl rfl rfl ?_
  refine w_iconst (q := 49) rfl rfl ?_
  obtain ⟨h1, k⟩ := k
  refine w_ceq (t := 60) (q := 52) rfl rfl rfl h1 (by decide) (fun c2 => ?_) (fun c2 => ?_)
  · replace k := k.1 c2
    refine w_aload_n (q := 61) rfl rfl rfl ?_
    refine w_iload_n (q := 62) rfl rfl rfl ?_
    refine w_pfi (q := 65) (k' := 4) rfl rfl rfl rfl ?_
    refine w_aload_n (q := 66) rfl rfl rfl ?_
    refine w_iload_n (q := 67) rfl rfl rfl ?_
    refine w_pfi (q := 70) (k' := 5) rfl rfl rfl rfl ?_
    refine w_iinc (q := 73) (L' := [some (.ref 89), some (w_i (l1 + 1)), some (w_i s0)]) (M' := []) rfl rfl rfl rfl rfl rfl ?_
    refine w_goto (t := 7) rfl rfl ?_
    exact k
  · replace k := k.2 c2
    refine w_iload_n (q := 53) rfl rfl rfl ?_
    refine w_aload_n (q := 54) rfl rfl rfl ?_
    refine w_gfi (q := 57) (k' := 5) (v := I 89 5) rfl rfl rfl rfl rfl rfl rfl ?_
    obtain ⟨h3, h4, k⟩ := k
    refine w_cge (t := 70) (q := 60) rfl rfl rfl h3 h4 (fun c5 => ?_) (fun c5 => ?_)
    · replace k := k.1 c5
      refine w_iinc (q := 73) (L' := [some (.ref 89), some (w_i (l1 + 1)), some (w_i s0)]) (M' := []) rfl rfl rfl rfl rfl rfl ?_
      refine w_goto (t := 7) rfl rfl ?_
      exact k
    · replace k := k.2 c5
      refine w_aload_n (q := 61) rfl rfl rfl ?_
      refine w_iload_n (q := 62) rfl rfl rfl ?_
      refine w_pfi (q := 65) (k' := 4) rfl rfl rfl rfl ?_
      refine w_aload_n (q := 66) rfl rfl rfl ?_
      refine w_iload_n (q := 67) rfl rfl rfl ?_
      refine w_pfi (q := 70) (k' := 5) rfl rfl rfl rfl ?_
      refine w_iinc (q := 73) (L' := [some (.ref 89), some (w_i (l1 + 1)), some (w_i s0)]) (M' := []) rfl rfl rfl rfl rfl rfl ?_
      refine w_goto (t := 7) rfl rfl ?_
      exact k
theorem e59 {xs : Nat → Int32} {xl : Nat} {I J : w_I} {b : Bool} {Q : Option Value → w_I → w_I → Bool → Prop} (t : w_T xs xl 59 0 [some (.ref 89), none, none] [] [] I J b Q) : w_C xs xl 59 [.ref 89] I J b Q := w_en rfl t
theorem b59_0 {xs : Nat → Int32} {xl : Nat} {I J : w_I} {b : Bool} {Q : Option Value → w_I → w_I → Bool → Prop} (k : w_T xs xl 59 7 [some (.ref 89), some (w_i 0), none] [] [] (w_U I 89 4 (-1)) J b Q) : w_T xs xl 59 0 [some (.ref 89), none, none] [] [] I J b Q := by
  refine w_aload_n (q := 1) rfl rfl rfl ?_
  refine w_iconst (q := 2) rfl rfl ?_
  refine w_pfi (q := 5) (k' := 4) rfl rfl rfl rfl ?_
  refine w_iconst (q := 6) rfl rfl ?_
  refine w_istore_n (q := 7) (L' := [some (.ref 89), some (w_i 0), none]) (M' := []) rfl rfl rfl rfl rfl ?_
  exact k
theorem b59_7 {xs : Nat → Int32} {xl : Nat} {I J : w_I} {b : Bool} {Q : Option Value → w_I → w_I → Bool → Prop} {l1 : Int} {u2 : Option Value} (k : ((-2147483648 ≤ l1 ∧ l1 < 2147483648) ∧ (-2147483648 ≤ I 2 5 ∧ I 2 5 < 2147483648) ∧ ((I 2 5 ≤ l1 → Q none I J b) ∧ (¬ I 2 5 ≤ l1 → ((0 ≤ l1 ∧ l1 < 24) ∧ ((-2147483648 ≤ I 30 l1 ∧ I 30 l1 < 2147483648) ∧ ((¬ I 30 l1 = (-1) → w_T xs xl 59 7 [some (.ref 89), some (w_i (l1 + 1)), u2] [] [] I J b Q) ∧ (I 30 l1 = (-1) → w_C xs xl 60 [.ref 89, w_i l1, w_i (-1)] I J b (fun v Ic Jc bc => w_T xs xl 59 43 [some (.ref 89), some (w_i l1), u2] [] (w_pv v []) Ic Jc bc Q))))))))) : w_T xs xl 59 7 [some (.ref 89), some (w_i l1), u2] [] [] I J b Q := by
  refine w_iload_n (q := 8) rfl rfl rfl ?_
  refine w_aload_n (q := 9) rfl rfl rfl ?_
  refine w_gfr (q := 12) rfl rfl rfl rfl (j := 78) rfl ?_
  refine w_gfr (q := 15) rfl rfl rfl rfl (j := 2) rfl ?_
  refine w_gfi (q := 18) (k' := 5) (v := I 2 5) rfl rfl rfl rfl rfl rfl rfl ?_
  obtain ⟨h1, h2, k⟩ := k
  refine w_cge (t := 92) (q := 21) rfl rfl rfl h1 h2 (fun c3 => ?_) (fun c3 => ?_)
  · replace k := k.1 c3
    exact w_vret rfl k
  · replace k := k.2 c3
    refine w_aload_n (q := 22) rfl rfl rfl ?_
    refine w_gfr (q := 25) rfl rfl rfl rfl (j := 78) rfl ?_
    refine w_gfr (q := 28) rfl rfl rfl rfl (j := 20) rfl ?_
    refine w_gfr (q := 31) rfl rfl rfl rfl (j := 30) rfl ?_
    refine w_iload_n (q := 32) rfl rfl rfl ?_
    obtain ⟨h4, k⟩ := k
    refine w_iald (q := 33) (n := 24) (v := I 30 l1) rfl rfl rfl rfl rfl rfl h4 ?_
    refine w_iconst (q := 34) rfl rfl ?_
    obtain ⟨h5, k⟩ := k
    refine w_cne (t := 86) (q := 37) rfl rfl rfl h5 (by decide) (fun c6 => ?_) (fun c6 => ?_)
    · replace k := k.1 c6
      refine w_iinc (q := 89) (L' := [some (.ref 89), some (w_i (l1 + 1)), u2]) (M' := []) rfl rfl rfl rfl rfl rfl ?_
      refine w_goto (t := 7) rfl rfl ?_
      exact k
    · replace k := k.2 c6
      refine w_aload_n (q := 38) rfl rfl rfl ?_
      refine w_iload_n (q := 39) rfl rfl rfl ?_
      refine w_iconst (q := 40) rfl rfl ?_
      refine w_callv (q := 43) rfl rfl rfl rfl rfl rfl ?_
      exact k
theorem b59_43 {xs : Nat → Int32} {xl : Nat} {I J : w_I} {b : Bool} {Q : Option Value → w_I → w_I → Bool → Prop} {l1 : Int} {u2 : Option Value} (k : w_C xs xl 61 [.ref 89, w_i (I 2 5 - 1)] I J b (fun v Ic Jc bc => w_T xs xl 59 59 [some (.ref 89), some (w_i l1), u2] [] (w_pv v []) Ic Jc bc Q)) : w_T xs xl 59 43 [some (.ref 89), some (w_i l1), u2] [] [] I J b Q := by
  refine w_aload_n (q := 44) rfl rfl rfl ?_
  refine w_aload_n (q := 45) rfl rfl rfl ?_
  refine w_gfr (q := 48) rfl rfl rfl rfl (j := 78) rfl ?_
  refine w_gfr (q := 51) rfl rfl rfl rfl (j := 2) rfl ?_
  refine w_gfi (q := 54) (k' := 5) (v := I 2 5) rfl rfl rfl rfl rfl rfl rfl ?_
  refine w_iconst (q := 55) rfl rfl ?_
  refine w_isub (q := 56) rfl rfl ?_
  refine w_callv (q := 59) rfl rfl rfl rfl rfl rfl ?_
  exact k
theorem b59_59 {xs : Nat → Int32} {xl : Nat} {I J : w_I} {b : Bool} {Q : Option Value → w_I → w_I → Bool → Prop} {l1 s0 : Int} {u2 : Option Value} (k : ((-2147483648 ≤ I 89 4 ∧ I 89 4 < 2147483648) ∧ ((I 89 4 = (-1) → w_T xs xl 59 7 [some (.ref 89), some (w_i (l1 + 1)), some (w_i s0)] [] [] (w_U (w_U I 89 4 l1) 89 5 s0) J b Q) ∧ (¬ I 89 4 = (-1) → ((-2147483648 ≤ s0 ∧ s0 < 2147483648) ∧ (-2147483648 ≤ I 89 5 ∧ I 89 5 < 2147483648) ∧ ((s0 ≤ I 89 5 → w_T xs xl 59 7 [some (.ref 89), some (w_i (l1 + 1)), some (w_i s0)] [] [] I J b Q) ∧ (¬ s0 ≤ I 89 5 → w_T xs xl 59 7 [some (.ref 89), some (w_i (l1 + 1)), some (w_i s0)] [] [] (w_U (w_U I 89 4 l1) 89 5 s0) J b Q))))))) : w_T xs xl 59 59 [some (.ref 89), some (w_i l1), u2] [] [w_i s0] I J b Q := by
  refine w_istore_n (q := 60) (L' := [some (.ref 89), some (w_i l1), some (w_i s0)]) (M' := []) rfl rfl rfl rfl rfl ?_
  refine w_aload_n (q := 61) rfl rfl rfl ?_
  refine w_gfi (q := 64) (k' := 4) (v := I 89 4) rfl rfl rfl rfl rfl rfl rfl ?_
  refine w_iconst (q := 65) rfl rfl ?_
  obtain ⟨h1, k⟩ := k
  refine w_ceq (t := 76) (q := 68) rfl rfl rfl h1 (by decide) (fun c2 => ?_) (fun c2 => ?_)
  · replace k := k.1 c2
    refine w_aload_n (q := 77) rfl rfl rfl ?_
    refine w_iload_n (q := 78) rfl rfl rfl ?_
    refine w_pfi (q := 81) (k' := 4) rfl rfl rfl rfl ?_
    refine w_aload_n (q := 82) rfl rfl rfl ?_
    refine w_iload_n (q := 83) rfl rfl rfl ?_
    refine w_pfi (q := 86) (k' := 5) rfl rfl rfl rfl ?_
    refine w_iinc (q := 89) (L' := [some (.ref 89), some (w_i (l1 + 1)), some (w_i s0)]) (M' := []) rfl rfl rfl rfl rfl rfl ?_
    refine w_goto (t := 7) rfl rfl ?_
    exact k
  · replace k := k.2 c2
    refine w_iload_n (q := 69) rfl rfl rfl ?_
    refine w_aload_n (q := 70) rfl rfl rfl ?_
    refine w_gfi (q := 73) (k' := 5) (v := I 89 5) rfl rfl rfl rfl rfl rfl rfl ?_
    obtain ⟨h3, h4, k⟩ := k
    refine w_cle (t := 86) (q := 76) rfl rfl rfl h3 h4 (fun c5 => ?_) (fun c5 => ?_)
    · replace k := k.1 c5
      refine w_iinc (q := 89) (L' := [some (.ref 89), some (w_i (l1 + 1)), some (w_i s0)]) (M' := []) rfl rfl rfl rfl rfl rfl ?_
      refine w_goto (t := 7) rfl rfl ?_
      exact k
    · replace k := k.2 c5
      refine w_aload_n (q := 77) rfl rfl rfl ?_
      refine w_iload_n (q := 78) rfl rfl rfl ?_
      refine w_pfi (q := 81) (k' := 4) rfl rfl rfl rfl ?_
      refine w_aload_n (q := 82) rfl rfl rfl ?_
      refine w_iload_n (q := 83) rfl rfl rfl ?_
      refine w_pfi (q := 86) (k' := 5) rfl rfl rfl rfl ?_
      refine w_iinc (q := 89) (L' := [some (.ref 89), some (w_i (l1 + 1)), some (w_i s0)]) (M' := []) rfl rfl rfl rfl rfl rfl ?_
      refine w_goto (t := 7) rfl rfl ?_
      exact k
theorem e60 {xs : Nat → Int32} {xl : Nat} {I J : w_I} {b : Bool} {Q : Option Value → w_I → w_I → Bool → Prop} {a1 a2 : Int} (t : w_T xs xl 60 0 [some (.ref 89), some (w_i a1), some (w_i a2), none, none] [] [] I J b Q) : w_C xs xl 60 [.ref 89, w_i a1, w_i a2] I J b Q := w_en rfl t
theorem b60_0 {xs : Nat → Int32} {xl : Nat} {I J : w_I} {b : Bool} {Q : Option Value → w_I → w_I → Bool → Prop} {a1 a2 : Int} (k : w_T xs xl 60 2 [some (.ref 89), some (w_i a1), some (w_i a2), some (w_i 0), none] [] [] I J b Q) : w_T xs xl 60 0 [some (.ref 89), some (w_i a1), some (w_i a2), none, none] [] [] I J b Q := by
  refine w_iconst (q := 1) rfl rfl ?_
  refine w_istore_n (q := 2) (L' := [some (.ref 89), some (w_i a1), some (w_i a2), some (w_i 0), none]) (M' := []) rfl rfl rfl rfl rfl ?_
  exact k
theorem b60_2 {xs : Nat → Int32} {xl : Nat} {I J : w_I} {b : Bool} {Q : Option Value → w_I → w_I → Bool → Prop} {l1 l2 l3 : Int} {u4 : Option Value} (k : ((-2147483648 ≤ l3 ∧ l3 < 2147483648) ∧ (-2147483648 ≤ I 78 6 ∧ I 78 6 < 2147483648) ∧ ((I 78 6 ≤ l3 → Q none I J b) ∧ (¬ I 78 6 ≤ l3 → ((0 ≤ l3 ∧ l3 < 25) ∧ ((0 ≤ I 84 l3 ∧ I 84 l3 < 30) ∧ ((-2147483648 ≤ I 28 (I 84 l3) ∧ I 28 (I 84 l3) < 2147483648) ∧ (-2147483648 ≤ l1 ∧ l1 < 2147483648) ∧ ((I 28 (I 84 l3) < l1 → ((0 ≤ l3 ∧ l3 < 24) ∧ w_T xs xl 60 2 [some (.ref 89), some (w_i l1), some (w_i l2), some (w_i (l3 + 1)), some (w_i (I 28 (I 84 l3)))] [] [] (w_U I 91 l3 (I 28 (I 84 l3))) J b Q)) ∧ (¬ I 28 (I 84 l3) < l1 → ((0 ≤ l3 ∧ l3 < 24) ∧ w_T xs xl 60 2 [some (.ref 89), some (w_i l1), some (w_i l2), some (w_i (l3 + 1)), some (w_i (I 28 (I 84 l3)))] [] [] (w_U I 91 l3 (I 28 (I 84 l3) + l2)) J b Q)))))))))) : w_T xs xl 60 2 [some (.ref 89), some (w_i l1), some (w_i l2), some (w_i l3), u4] [] [] I J b Q := by
  refine w_iload_n (q := 3) rfl rfl rfl ?_
  refine w_aload_n (q := 4) rfl rfl rfl ?_
  refine w_gfr (q := 7) rfl rfl rfl rfl (j := 78) rfl ?_
  refine w_gfi (q := 10) (k' := 6) (v := I 78 6) rfl rfl rfl rfl rfl rfl rfl ?_
  obtain ⟨h1, h2, k⟩ := k
  refine w_cge (t := 62) (q := 13) rfl rfl rfl h1 h2 (fun c3 => ?_) (fun c3 => ?_)
  · replace k := k.1 c3
    exact w_vret rfl k
  · replace k := k.2 c3
    refine w_aload_n (q := 14) rfl rfl rfl ?_
    refine w_gfr (q := 17) rfl rfl rfl rfl (j := 78) rfl ?_
    refine w_gfr (q := 20) rfl rfl rfl rfl (j := 20) rfl ?_
    refine w_gfr (q := 23) rfl rfl rfl rfl (j := 28) rfl ?_
    refine w_aload_n (q := 24) rfl rfl rfl ?_
    refine w_gfr (q := 27) rfl rfl rfl rfl (j := 78) rfl ?_
    refine w_gfr (q := 30) rfl rfl rfl rfl (j := 84) rfl ?_
    refine w_iload_n (q := 31) rfl rfl rfl ?_
    obtain ⟨h4, k⟩ := k
    refine w_iald (q := 32) (n := 25) (v := I 84 l3) rfl rfl rfl rfl rfl rfl h4 ?_
    obtain ⟨h5, k⟩ := k
    refine w_iald (q := 33) (n := 30) (v := I 28 (I 84 l3)) rfl rfl rfl rfl rfl rfl h5 ?_
    refine w_istore (q := 35) (L' := [some (.ref 89), some (w_i l1), some (w_i l2), some (w_i l3), some (w_i (I 28 (I 84 l3)))]) (M' := []) rfl rfl rfl rfl rfl ?_
    refine w_aload_n (q := 36) rfl rfl rfl ?_
    refine w_gfr (q := 39) rfl rfl rfl rfl (j := 91) rfl ?_
    refine w_iload_n (q := 40) rfl rfl rfl ?_
    refine w_iload (q := 42) rfl rfl rfl ?_
    refine w_iload_n (q := 43) rfl rfl rfl ?_
    obtain ⟨h6, h7, k⟩ := k
    refine w_clt (t := 53) (q := 46) rfl rfl rfl h6 h7 (fun c8 => ?_) (fun c8 => ?_)
    · replace k := k.1 c8
      refine w_iload (q := 55) rfl rfl rfl ?_
      obtain ⟨h9, k⟩ := k
      refine w_iast (q := 56) (n := 24) rfl rfl rfl rfl rfl h9 ?_
      refine w_iinc (q := 59) (L' := [some (.ref 89), some (w_i l1), some (w_i l2), some (w_i (l3 + 1)), some (w_i (I 28 (I 84 l3)))]) (M' := []) rfl rfl rfl rfl rfl rfl ?_
      refine w_goto (t := 2) rfl rfl ?_
      exact k
    · replace k := k.2 c8
      refine w_iload (q := 48) rfl rfl rfl ?_
      refine w_iload_n (q := 49) rfl rfl rfl ?_
      refine w_iadd (q := 50) rfl rfl ?_
      refine w_goto (t := 55) rfl rfl ?_
      obtain ⟨h10, k⟩ := k
      refine w_iast (q := 56) (n := 24) rfl rfl rfl rfl rfl h10 ?_
      refine w_iinc (q := 59) (L' := [some (.ref 89), some (w_i l1), some (w_i l2), some (w_i (l3 + 1)), some (w_i (I 28 (I 84 l3)))]) (M' := []) rfl rfl rfl rfl rfl rfl ?_
      refine w_goto (t := 2) rfl rfl ?_
      exact k
theorem e61 {xs : Nat → Int32} {xl : Nat} {I J : w_I} {b : Bool} {Q : Option Value → w_I → w_I → Bool → Prop} {a1 : Int} (t : w_T xs xl 61 0 [some (.ref 89), some (w_i a1), none, none, none] [] [] I J b Q) : w_C xs xl 61 [.ref 89, w_i a1] I J b Q := w_en rfl t
theorem b61_0 {xs : Nat → Int32} {xl : Nat} {I J : w_I} {b : Bool} {Q : Option Value → w_I → w_I → Bool → Prop} {a1 : Int} (k : w_T xs xl 61 17 [some (.ref 89), some (w_i a1), some (w_i (a1 - I 78 6 - 1)), some (w_i 0), some (w_i 0)] [] [] I J b Q) : w_T xs xl 61 0 [some (.ref 89), some (w_i a1), none, none, none] [] [] I J b Q := by
  refine w_iload_n (q := 1) rfl rfl rfl ?_
  refine w_aload_n (q := 2) rfl rfl rfl ?_
  refine w_gfr (q := 5) rfl rfl rfl rfl (j := 78) rfl ?_
  refine w_gfi (q := 8) (k' := 6) (v := I 78 6) rfl rfl rfl rfl rfl rfl rfl ?_
  refine w_isub (q := 9) rfl rfl ?_
  refine w_iconst (q := 10) rfl rfl ?_
  refine w_isub (q := 11) rfl rfl ?_
  refine w_istore_n (q := 12) (L' := [some (.ref 89), some (w_i a1), some (w_i (a1 - I 78 6 - 1)), none, none]) (M' := []) rfl rfl rfl rfl rfl ?_
  refine w_iconst (q := 13) rfl rfl ?_
  refine w_istore_n (q := 14) (L' := [some (.ref 89), some (w_i a1), some (w_i (a1 - I 78 6 - 1)), some (w_i 0), none]) (M' := []) rfl rfl rfl rfl rfl ?_
  refine w_iconst (q := 15) rfl rfl ?_
  refine w_istore (q := 17) (L' := [some (.ref 89), some (w_i a1), some (w_i (a1 - I 78 6 - 1)), some (w_i 0), some (w_i 0)]) (M' := []) rfl rfl rfl rfl rfl ?_
  exact k
theorem b61_17 {xs : Nat → Int32} {xl : Nat} {I J : w_I} {b : Bool} {Q : Option Value → w_I → w_I → Bool → Prop} {u1 : Option Value} {l2 l3 l4 : Int} (k : ((-2147483648 ≤ l4 ∧ l4 < 2147483648) ∧ (-2147483648 ≤ I 78 6 ∧ I 78 6 < 2147483648) ∧ ((I 78 6 < l4 → Q (some (w_i l3)) I J b) ∧ (¬ I 78 6 < l4 → ((0 ≤ l4 ∧ l4 < 25) ∧ ((-2147483648 ≤ I 90 l4 ∧ I 90 l4 < 2147483648) ∧ ((I 90 l4 ≤ 0 → w_T xs xl 61 17 [some (.ref 89), u1, some (w_i l2), some (w_i l3), some (w_i (l4 + 1))] [] [] I J b Q) ∧ (¬ I 90 l4 ≤ 0 → ((-2147483648 ≤ l2 ∧ l2 < 2147483648) ∧ ((0 ≤ l2 → w_C xs xl 62 [.ref 89, w_i l4, w_i 1, w_i l2] I J b (fun v Ic Jc bc => w_T xs xl 61 64 [some (.ref 89), u1, some (w_i l2), some (w_i l3), some (w_i l4)] [] (w_pv v [w_i (I 90 l4), w_i l3]) Ic Jc bc Q)) ∧ (¬ 0 ≤ l2 → w_T xs xl 61 17 [some (.ref 89), u1, some (w_i l2), some (w_i (l3 + I 90 l4 * 24)), some (w_i (l4 + 1))] [] [] I J b Q))))))))))) : w_T xs xl 61 17 [some (.ref 89), u1, some (w_i l2), some (w_i l3), some (w_i l4)] [] [] I J b Q := by
  refine w_iload (q := 19) rfl rfl rfl ?_
  refine w_aload_n (q := 20) rfl rfl rfl ?_
  refine w_gfr (q := 23) rfl rfl rfl rfl (j := 78) rfl ?_
  refine w_gfi (q := 26) (k' := 6) (v := I 78 6) rfl rfl rfl rfl rfl rfl rfl ?_
  obtain ⟨h1, h2, k⟩ := k
  refine w_cgt (t := 73) (q := 29) rfl rfl rfl h1 h2 (fun c3 => ?_) (fun c3 => ?_)
  · replace k := k.1 c3
    refine w_iload_n (q := 74) rfl rfl rfl ?_
    exact w_iret rfl rfl k
  · replace k := k.2 c3
    refine w_aload_n (q := 30) rfl rfl rfl ?_
    refine w_gfr (q := 33) rfl rfl rfl rfl (j := 90) rfl ?_
    refine w_iload (q := 35) rfl rfl rfl ?_
    obtain ⟨h4, k⟩ := k
    refine w_iald (q := 36) (n := 25) (v := I 90 l4) rfl rfl rfl rfl rfl rfl h4 ?_
    obtain ⟨h5, k⟩ := k
    refine w_zle (t := 67) (q := 39) rfl rfl rfl h5 (fun c6 => ?_) (fun c6 => ?_)
    · replace k := k.1 c6
      refine w_iinc (q := 70) (L' := [some (.ref 89), u1, some (w_i l2), some (w_i l3), some (w_i (l4 + 1))]) (M' := []) rfl rfl rfl rfl rfl rfl ?_
      refine w_goto (t := 17) rfl rfl ?_
      exact k
    · replace k := k.2 c6
      refine w_iload_n (q := 40) rfl rfl rfl ?_
      refine w_aload_n (q := 41) rfl rfl rfl ?_
      refine w_gfr (q := 44) rfl rfl rfl rfl (j := 90) rfl ?_
      refine w_iload (q := 46) rfl rfl rfl ?_
      refine w_iald (q := 47) (n := 25) (v := I 90 l4) rfl rfl rfl rfl rfl rfl h4 ?_
      refine w_iload_n (q := 48) rfl rfl rfl ?_
      obtain ⟨h7, k⟩ := k
      refine w_zge (t := 56) (q := 51) rfl rfl rfl h7 (fun c8 => ?_) (fun c8 => ?_)
      · replace k := k.1 c8
        refine w_aload_n (q := 57) rfl rfl rfl ?_
        refine w_iload (q := 59) rfl rfl rfl ?_
        refine w_iconst (q := 60) rfl rfl ?_
        refine w_iload_n (q := 61) rfl rfl rfl ?_
        refine w_callv (q := 64) rfl rfl rfl rfl rfl rfl ?_
        exact k
      · replace k := k.2 c8
        refine w_bipush (q := 53) rfl rfl rfl ?_
        refine w_goto (t := 64) rfl rfl ?_
        refine w_imul (q := 65) rfl rfl ?_
        refine w_iadd (q := 66) rfl rfl ?_
        refine w_istore_n (q := 67) (L' := [some (.ref 89), u1, some (w_i l2), some (w_i (l3 + I 90 l4 * 24)), some (w_i l4)]) (M' := []) rfl rfl rfl rfl rfl ?_
        refine w_iinc (q := 70) (L' := [some (.ref 89), u1, some (w_i l2), some (w_i (l3 + I 90 l4 * 24)), some (w_i (l4 + 1))]) (M' := []) rfl rfl rfl rfl rfl rfl ?_
        refine w_goto (t := 17) rfl rfl ?_
        exact k
theorem b61_64 {xs : Nat → Int32} {xl : Nat} {I J : w_I} {b : Bool} {Q : Option Value → w_I → w_I → Bool → Prop} {u1 u3 : Option Value} {l2 l4 s0 s1 s2 : Int} (k : w_T xs xl 61 17 [some (.ref 89), u1, some (w_i l2), some (w_i (s0 + s1 * s2)), some (w_i (l4 + 1))] [] [] I J b Q) : w_T xs xl 61 64 [some (.ref 89), u1, some (w_i l2), u3, some (w_i l4)] [] [w_i s2, w_i s1, w_i s0] I J b Q := by
  refine w_imul (q := 65) rfl rfl ?_
  refine w_iadd (q := 66) rfl rfl ?_
  refine w_istore_n (q := 67) (L' := [some (.ref 89), u1, some (w_i l2), some (w_i (s0 + s1 * s2)), some (w_i l4)]) (M' := []) rfl rfl rfl rfl rfl ?_
  refine w_iinc (q := 70) (L' := [some (.ref 89), u1, some (w_i l2), some (w_i (s0 + s1 * s2)), some (w_i (l4 + 1))]) (M' := []) rfl rfl rfl rfl rfl rfl ?_
  refine w_goto (t := 17) rfl rfl ?_
  exact k
theorem e62 {xs : Nat → Int32} {xl : Nat} {I J : w_I} {b : Bool} {Q : Option Value → w_I → w_I → Bool → Prop} {a1 a2 a3 : Int} (t : w_T xs xl 62 0 [some (.ref 89), some (w_i a1), some (w_i a2), some (w_i a3), none, none, none, none, none] [] [] I J b Q) : w_C xs xl 62 [.ref 89, w_i a1, w_i a2, w_i a3] I J b Q := w_en rfl t
theorem b62_0 {xs : Nat → Int32} {xl : Nat} {I J : w_I} {b : Bool} {Q : Option Value → w_I → w_I → Bool → Prop} {a1 a2 a3 : Int} (k : w_C xs xl 295 [.ref 92, w_i 0] I J b (fun v Ic Jc bc => w_T xs xl 62 11 [some (.ref 89), some (w_i a1), some (w_i a2), some (w_i a3), some (w_i 0), none, none, none, none] [] (w_pv v []) Ic Jc bc Q)) : w_T xs xl 62 0 [some (.ref 89), some (w_i a1), some (w_i a2), some (w_i a3), none, none, none, none, none] [] [] I J b Q := by
  refine w_iconst (q := 1) rfl rfl ?_
  refine w_istore (q := 3) (L' := [some (.ref 89), some (w_i a1), some (w_i a2), some (w_i a3), some (w_i 0), none, none, none, none]) (M' := []) rfl rfl rfl rfl rfl ?_
  refine w_aload_n (q := 4) rfl rfl rfl ?_
  refine w_gfr (q := 7) rfl rfl rfl rfl (j := 92) rfl ?_
  refine w_iconst (q := 8) rfl rfl ?_
  refine w_call (q := 11) rfl rfl rfl rfl rfl ?_
  exact k
theorem b62_11 {xs : Nat → Int32} {xl : Nat} {I J : w_I} {b : Bool} {Q : Option Value → w_I → w_I → Bool → Prop} {l1 l2 l3 l4 : Int} {u5 u6 u7 u8 : Option Value} (k : w_T xs xl 62 14 [some (.ref 89), some (w_i l1), some (w_i l2), some (w_i l3), some (w_i l4), some (w_i 0), u6, u7, u8] [] [] I J b Q) : w_T xs xl 62 11 [some (.ref 89), some (w_i l1), some (w_i l2), some (w_i l3), some (w_i l4), u5, u6, u7, u8] [] [] I J b Q := by
  refine w_iconst (q := 12) rfl rfl ?_
  refine w_istore (q := 14) (L' := [some (.ref 89), some (w_i l1), some (w_i l2), some (w_i l3), some (w_i l4), some (w_i 0), u6, u7, u8]) (M' := []) rfl rfl rfl rfl rfl ?_
  exact k
theorem b62_14 {xs : Nat → Int32} {xl : Nat} {I J : w_I} {b : Bool} {Q : Option Value → w_I → w_I → Bool → Prop} {l1 l2 l3 l4 l5 : Int} {u6 u7 u8 : Option Value} (k : ((-2147483648 ≤ l5 ∧ l5 < 2147483648) ∧ (-2147483648 ≤ I 78 6 ∧ I 78 6 < 2147483648) ∧ ((I 78 6 ≤ l5 → Q (some (w_i (I 78 6 - l4))) I J b) ∧ (¬ I 78 6 ≤ l5 → ((0 ≤ l5 ∧ l5 < 24) ∧ ((-2147483648 ≤ l1 ∧ l1 < 2147483648) ∧ ((l1 ≤ l5 → ((-2147483648 ≤ I 91 l5 - (l5 + l2) ∧ I 91 l5 - (l5 + l2) < 2147483648) ∧ ((I 91 l5 - (l5 + l2) < 0 → w_T xs xl 62 14 [some (.ref 89), some (w_i l1), some (w_i l2), some (w_i l3), some (w_i l4), some (w_i (l5 + 1)), some (w_i (I 91 l5 - (l5 + l2))), u7, u8] [] [] I J b Q) ∧ (¬ I 91 l5 - (l5 + l2) < 0 → ((-2147483648 ≤ l3 ∧ l3 < 2147483648) ∧ ((l3 < I 91 l5 - (l5 + l2) → w_T xs xl 62 14 [some (.ref 89), some (w_i l1), some (w_i l2), some (w_i l3), some (w_i l4), some (w_i (l5 + 1)), some (w_i (I 91 l5 - (l5 + l2))), u7, u8] [] [] I J b Q) ∧ (¬ l3 < I 91 l5 - (l5 + l2) → w_T xs xl 62 68 [some (.ref 89), some (w_i l1), some (w_i l2), some (w_i l3), some (w_i l4), some (w_i l5), some (w_i (I 91 l5 - (l5 + l2))), some (w_i 0), some (w_i 0)] [] [] I J b Q))))))) ∧ (¬ l1 ≤ l5 → ((-2147483648 ≤ I 91 l5 - l5 ∧ I 91 l5 - l5 < 2147483648) ∧ ((I 91 l5 - l5 < 0 → w_T xs xl 62 14 [some (.ref 89), some (w_i l1), some (w_i l2), some (w_i l3), some (w_i l4), some (w_i (l5 + 1)), some (w_i (I 91 l5 - l5)), u7, u8] [] [] I J b Q) ∧ (¬ I 91 l5 - l5 < 0 → ((-2147483648 ≤ l3 ∧ l3 < 2147483648) ∧ ((l3 < I 91 l5 - l5 → w_T xs xl 62 14 [some (.ref 89), some (w_i l1), some (w_i l2), some (w_i l3), some (w_i l4), some (w_i (l5 + 1)), some (w_i (I 91 l5 - l5)), u7, u8] [] [] I J b Q) ∧ (¬ l3 < I 91 l5 - l5 → w_T xs xl 62 68 [some (.ref 89), some (w_i l1), some (w_i l2), some (w_i l3), some (w_i l4), some (w_i l5), some (w_i (I 91 l5 - l5)), some (w_i 0), some (w_i 0)] [] [] I J b Q)))))))))))))) : w_T xs xl 62 14 [some (.ref 89), some (w_i l1), some (w_i l2), some (w_i l3), some (w_i l4), some (w_i l5), u6, u7, u8] [] [] I J b Q := by
  refine w_iload (q := 16) rfl rfl rfl ?_
  refine w_aload_n (q := 17) rfl rfl rfl ?_
  refine w_gfr (q := 20) rfl rfl rfl rfl (j := 78) rfl ?_
  refine w_gfi (q := 23) (k' := 6) (v := I 78 6) rfl rfl rfl rfl rfl rfl rfl ?_
  obtain ⟨h1, h2, k⟩ := k
  refine w_cge (t := 123) (q := 26) rfl rfl rfl h1 h2 (fun c3 => ?_) (fun c3 => ?_)
  · replace k := k.1 c3
    refine w_aload_n (q := 124) rfl rfl rfl ?_
    refine w_gfr (q := 127) rfl rfl rfl rfl (j := 78) rfl ?_
    refine w_gfi (q := 130) (k' := 6) (v := I 78 6) rfl rfl rfl rfl rfl rfl rfl ?_
    refine w_iload (q := 132) rfl rfl rfl ?_
    refine w_isub (q := 133) rfl rfl ?_
    exact w_iret rfl rfl k
  · replace k := k.2 c3
    refine w_aload_n (q := 27) rfl rfl rfl ?_
    refine w_gfr (q := 30) rfl rfl rfl rfl (j := 91) rfl ?_
    refine w_iload (q := 32) rfl rfl rfl ?_
    obtain ⟨h4, k⟩ := k
    refine w_iald (q := 33) (n := 24) (v := I 91 l5) rfl rfl rfl rfl rfl rfl h4 ?_
    refine w_iload (q := 35) rfl rfl rfl ?_
    refine w_iload_n (q := 36) rfl rfl rfl ?_
    obtain ⟨h5, k⟩ := k
    refine w_cge (t := 44) (q := 39) rfl rfl rfl h1 h5 (fun c6 => ?_) (fun c6 => ?_)
    · replace k := k.1 c6
      refine w_iload (q := 46) rfl rfl rfl ?_
      refine w_iload_n (q := 47) rfl rfl rfl ?_
      refine w_iadd (q := 48) rfl rfl ?_
      refine w_isub (q := 49) rfl rfl ?_
      refine w_istore (q := 51) (L' := [some (.ref 89), some (w_i l1), some (w_i l2), some (w_i l3), some (w_i l4), some (w_i l5), some (w_i (I 91 l5 - (l5 + l2))), u7, u8]) (M' := []) rfl rfl rfl rfl rfl ?_
      refine w_iload (q := 53) rfl rfl rfl ?_
      obtain ⟨h7, k⟩ := k
      refine w_zlt (t := 117) (q := 56) rfl rfl rfl h7 (fun c8 => ?_) (fun c8 => ?_)
      · replace k := k.1 c8
        refine w_iinc (q := 120) (L' := [some (.ref 89), some (w_i l1), some (w_i l2), some (w_i l3), some (w_i l4), some (w_i (l5 + 1)), some (w_i (I 91 l5 - (l5 + l2))), u7, u8]) (M' := []) rfl rfl rfl rfl rfl rfl ?_
        refine w_goto (t := 14) rfl rfl ?_
        exact k
      · replace k := k.2 c8
        refine w_iload (q := 58) rfl rfl rfl ?_
        refine w_iload_n (q := 59) rfl rfl rfl ?_
        obtain ⟨h9, k⟩ := k
        refine w_cgt (t := 117) (q := 62) rfl rfl rfl h7 h9 (fun c10 => ?_) (fun c10 => ?_)
        · replace k := k.1 c10
          refine w_iinc (q := 120) (L' := [some (.ref 89), some (w_i l1), some (w_i l2), some (w_i l3), some (w_i l4), some (w_i (l5 + 1)), some (w_i (I 91 l5 - (l5 + l2))), u7, u8]) (M' := []) rfl rfl rfl rfl rfl rfl ?_
          refine w_goto (t := 14) rfl rfl ?_
          exact k
        · replace k := k.2 c10
          refine w_iconst (q := 63) rfl rfl ?_
          refine w_istore (q := 65) (L' := [some (.ref 89), some (w_i l1), some (w_i l2), some (w_i l3), some (w_i l4), some (w_i l5), some (w_i (I 91 l5 - (l5 + l2))), some (w_i 0), u8]) (M' := []) rfl rfl rfl rfl rfl ?_
          refine w_iconst (q := 66) rfl rfl ?_
          refine w_istore (q := 68) (L' := [some (.ref 89), some (w_i l1), some (w_i l2), some (w_i l3), some (w_i l4), some (w_i l5), some (w_i (I 91 l5 - (l5 + l2))), some (w_i 0), some (w_i 0)]) (M' := []) rfl rfl rfl rfl rfl ?_
          exact k
    · replace k := k.2 c6
      refine w_iload (q := 41) rfl rfl rfl ?_
      refine w_goto (t := 48) rfl rfl ?_
      refine w_isub (q := 49) rfl rfl ?_
      refine w_istore (q := 51) (L' := [some (.ref 89), some (w_i l1), some (w_i l2), some (w_i l3), some (w_i l4), some (w_i l5), some (w_i (I 91 l5 - l5)), u7, u8]) (M' := []) rfl rfl rfl rfl rfl ?_
      refine w_iload (q := 53) rfl rfl rfl ?_
      obtain ⟨h11, k⟩ := k
      refine w_zlt (t := 117) (q := 56) rfl rfl rfl h11 (fun c12 => ?_) (fun c12 => ?_)
      · replace k := k.1 c12
        refine w_iinc (q := 120) (L' := [some (.ref 89), some (w_i l1), some (w_i l2), some (w_i l3), some (w_i l4), some (w_i (l5 + 1)), some (w_i (I 91 l5 - l5)), u7, u8]) (M' := []) rfl rfl rfl rfl rfl rfl ?_
        refine w_goto (t := 14) rfl rfl ?_
        exact k
      · replace k := k.2 c12
        refine w_iload (q := 58) rfl rfl rfl ?_
        refine w_iload_n (q := 59) rfl rfl rfl ?_
        obtain ⟨h13, k⟩ := k
        refine w_cgt (t := 117) (q := 62) rfl rfl rfl h11 h13 (fun c14 => ?_) (fun c14 => ?_)
        · replace k := k.1 c14
          refine w_iinc (q := 120) (L' := [some (.ref 89), some (w_i l1), some (w_i l2), some (w_i l3), some (w_i l4), some (w_i (l5 + 1)), some (w_i (I 91 l5 - l5)), u7, u8]) (M' := []) rfl rfl rfl rfl rfl rfl ?_
          refine w_goto (t := 14) rfl rfl ?_
          exact k
        · replace k := k.2 c14
          refine w_iconst (q := 63) rfl rfl ?_
          refine w_istore (q := 65) (L' := [some (.ref 89), some (w_i l1), some (w_i l2), some (w_i l3), some (w_i l4), some (w_i l5), some (w_i (I 91 l5 - l5)), some (w_i 0), u8]) (M' := []) rfl rfl rfl rfl rfl ?_
          refine w_iconst (q := 66) rfl rfl ?_
          refine w_istore (q := 68) (L' := [some (.ref 89), some (w_i l1), some (w_i l2), some (w_i l3), some (w_i l4), some (w_i l5), some (w_i (I 91 l5 - l5)), some (w_i 0), some (w_i 0)]) (M' := []) rfl rfl rfl rfl rfl ?_
          exact k
theorem b62_68 {xs : Nat → Int32} {xl : Nat} {I J : w_I} {b : Bool} {Q : Option Value → w_I → w_I → Bool → Prop} {l1 l2 l3 l4 l5 l6 l7 l8 : Int} (k : ((-2147483648 ≤ l8 ∧ l8 < 2147483648) ∧ (-2147483648 ≤ l6 ∧ l6 < 2147483648) ∧ ((l6 < l8 → ((0 ≤ l6 ∧ l6 < 25) ∧ ((-2147483648 ≤ l4 ∧ l4 < 2147483648) ∧ (-2147483648 ≤ l7 + 1 ∧ l7 + 1 < 2147483648) ∧ w_T xs xl 62 14 [some (.ref 89), some (w_i l1), some (w_i l2), some (w_i l3), some (w_i (max l4 (l7 + 1))), some (w_i (l5 + 1)), some (w_i l6), some (w_i l7), some (w_i l8)] [] [] (w_U I 92 l6 (l7 + 1)) J b Q))) ∧ (¬ l6 < l8 → ((0 ≤ l8 ∧ l8 < 25) ∧ ((-2147483648 ≤ l7 ∧ l7 < 2147483648) ∧ (-2147483648 ≤ I 92 l8 ∧ I 92 l8 < 2147483648) ∧ w_T xs xl 62 68 [some (.ref 89), some (w_i l1), some (w_i l2), some (w_i l3), some (w_i l4), some (w_i l5), some (w_i l6), some (w_i (max l7 (I 92 l8))), some (w_i (l8 + 1))] [] [] I J b Q)))))) : w_T xs xl 62 68 [some (.ref 89), some (w_i l1), some (w_i l2), some (w_i l3), some (w_i l4), some (w_i l5), some (w_i l6), some (w_i l7), some (w_i l8)] [] [] I J b Q := by
  refine w_iload (q := 70) rfl rfl rfl ?_
  refine w_iload (q := 72) rfl rfl rfl ?_
  obtain ⟨h1, h2, k⟩ := k
  refine w_cgt (t := 95) (q := 75) rfl rfl rfl h1 h2 (fun c3 => ?_) (fun c3 => ?_)
  · replace k := k.1 c3
    refine w_aload_n (q := 96) rfl rfl rfl ?_
    refine w_gfr (q := 99) rfl rfl rfl rfl (j := 92) rfl ?_
    refine w_iload (q := 101) rfl rfl rfl ?_
    refine w_iload (q := 103) rfl rfl rfl ?_
    refine w_iconst (q := 104) rfl rfl ?_
    refine w_iadd (q := 105) rfl rfl ?_
    obtain ⟨h4, k⟩ := k
    refine w_iast (q := 106) (n := 25) rfl rfl rfl rfl rfl h4 ?_
    refine w_iload (q := 108) rfl rfl rfl ?_
    refine w_iload (q := 110) rfl rfl rfl ?_
    refine w_iconst (q := 111) rfl rfl ?_
    refine w_iadd (q := 112) rfl rfl ?_
    obtain ⟨h5, h6, k⟩ := k
    refine w_max (q := 115) rfl rfl rfl h5 h6 ?_
    refine w_istore (q := 117) (L' := [some (.ref 89), some (w_i l1), some (w_i l2), some (w_i l3), some (w_i (max l4 (l7 + 1))), some (w_i l5), some (w_i l6), some (w_i l7), some (w_i l8)]) (M' := []) rfl rfl rfl rfl rfl ?_
    refine w_iinc (q := 120) (L' := [some (.ref 89), some (w_i l1), some (w_i l2), some (w_i l3), some (w_i (max l4 (l7 + 1))), some (w_i (l5 + 1)), some (w_i l6), some (w_i l7), some (w_i l8)]) (M' := []) rfl rfl rfl rfl rfl rfl ?_
    refine w_goto (t := 14) rfl rfl ?_
    exact k
  · replace k := k.2 c3
    refine w_iload (q := 77) rfl rfl rfl ?_
    refine w_aload_n (q := 78) rfl rfl rfl ?_
    refine w_gfr (q := 81) rfl rfl rfl rfl (j := 92) rfl ?_
    refine w_iload (q := 83) rfl rfl rfl ?_
    obtain ⟨h7, k⟩ := k
    refine w_iald (q := 84) (n := 25) (v := I 92 l8) rfl rfl rfl rfl rfl rfl h7 ?_
    obtain ⟨h8, h9, k⟩ := k
    refine w_max (q := 87) rfl rfl rfl h8 h9 ?_
    refine w_istore (q := 89) (L' := [some (.ref 89), some (w_i l1), some (w_i l2), some (w_i l3), some (w_i l4), some (w_i l5), some (w_i l6), some (w_i (max l7 (I 92 l8))), some (w_i l8)]) (M' := []) rfl rfl rfl rfl rfl ?_
    refine w_iinc (q := 92) (L' := [some (.ref 89), some (w_i l1), some (w_i l2), some (w_i l3), some (w_i l4), some (w_i l5), some (w_i l6), some (w_i (max l7 (I 92 l8))), some (w_i (l8 + 1))]) (M' := []) rfl rfl rfl rfl rfl rfl ?_
    refine w_goto (t := 68) rfl rfl ?_
    exact k
theorem e64 {xs : Nat → Int32} {xl : Nat} {I J : w_I} {b : Bool} {Q : Option Value → w_I → w_I → Bool → Prop} {a1 : Int} (t : w_T xs xl 64 0 [some (.ref 8), some (w_i a1), none, none] [] [] I J b Q) : w_C xs xl 64 [.ref 8, w_i a1] I J b Q := w_en rfl t
theorem b64_0 {xs : Nat → Int32} {xl : Nat} {I J : w_I} {b : Bool} {Q : Option Value → w_I → w_I → Bool → Prop} {a1 : Int} (k : w_C xs xl 100 [.ref 9] (w_U (w_U (w_U (w_U I 8 8 a1) 8 9 0) 8 10 0) 8 12 0) J b (fun v Ic Jc bc => w_T xs xl 64 27 [some (.ref 8), some (w_i a1), none, none] [] (w_pv v []) Ic Jc bc Q)) : w_T xs xl 64 0 [some (.ref 8), some (w_i a1), none, none] [] [] I J b Q := by
  refine w_aload_n (q := 1) rfl rfl rfl ?_
  refine w_iload_n (q := 2) rfl rfl rfl ?_
  refine w_pfi (q := 5) (k' := 8) rfl rfl rfl rfl ?_
  refine w_aload_n (q := 6) rfl rfl rfl ?_
  refine w_iconst (q := 7) rfl rfl ?_
  refine w_pfi (q := 10) (k' := 9) rfl rfl rfl rfl ?_
  refine w_aload_n (q := 11) rfl rfl rfl ?_
  refine w_iconst (q := 12) rfl rfl ?_
  refine w_pfi (q := 15) (k' := 10) rfl rfl rfl rfl ?_
  refine w_aload_n (q := 16) rfl rfl rfl ?_
  refine w_iconst (q := 17) rfl rfl ?_
  refine w_pfi (q := 20) (k' := 12) rfl rfl rfl rfl ?_
  refine w_aload_n (q := 21) rfl rfl rfl ?_
  refine w_gfr (q := 24) rfl rfl rfl rfl (j := 9) rfl ?_
  refine w_callv (q := 27) rfl rfl rfl rfl rfl rfl ?_
  exact k
theorem b64_27 {xs : Nat → Int32} {xl : Nat} {I J : w_I} {b : Bool} {Q : Option Value → w_I → w_I → Bool → Prop} {u1 u2 u3 : Option Value} (k : w_C xs xl 65 [.ref 8] I J b (fun v Ic Jc bc => w_T xs xl 64 31 [some (.ref 8), u1, u2, u3] [] (w_pv v []) Ic Jc bc Q)) : w_T xs xl 64 27 [some (.ref 8), u1, u2, u3] [] [] I J b Q := by
  refine w_aload_n (q := 28) rfl rfl rfl ?_
  refine w_callv (q := 31) rfl rfl rfl rfl rfl rfl ?_
  exact k
theorem b64_31 {xs : Nat → Int32} {xl : Nat} {I J : w_I} {b : Bool} {Q : Option Value → w_I → w_I → Bool → Prop} {u1 u2 u3 : Option Value} (k : w_T xs xl 64 35 [some (.ref 8), u1, some (w_i 1), some (w_i 0)] [] [] I J b Q) : w_T xs xl 64 31 [some (.ref 8), u1, u2, u3] [] [] I J b Q := by
  refine w_iconst (q := 32) rfl rfl ?_
  refine w_istore_n (q := 33) (L' := [some (.ref 8), u1, some (w_i 1), u3]) (M' := []) rfl rfl rfl rfl rfl ?_
  refine w_iconst (q := 34) rfl rfl ?_
  refine w_istore_n (q := 35) (L' := [some (.ref 8), u1, some (w_i 1), some (w_i 0)]) (M' := []) rfl rfl rfl rfl rfl ?_
  exact k
theorem b64_35 {xs : Nat → Int32} {xl : Nat} {I J : w_I} {b : Bool} {Q : Option Value → w_I → w_I → Bool → Prop} {u1 : Option Value} {l2 l3 : Int} (k : ((-2147483648 ≤ l3 ∧ l3 < 2147483648) ∧ ((400 < l3 → ((-2147483648 ≤ I 8 10 ∧ I 8 10 < 2147483648) ∧ ((¬ I 8 10 = 0 → Q (some (w_i (I 8 10))) I J b) ∧ (I 8 10 = 0 → ((-2147483648 ≤ I 8 12 ∧ I 8 12 < 2147483648) ∧ ((I 8 12 = 0 → Q (some (w_i (I 8 10))) I J b) ∧ (¬ I 8 12 = 0 → Q (some (w_i (I 8 12))) (w_U (w_U I 8 10 (I 8 12)) 8 11 (I 8 13)) J b))))))) ∧ (¬ 400 < l3 → ((-2147483648 ≤ l2 ∧ l2 < 2147483648) ∧ ((l2 = 0 → ((-2147483648 ≤ I 8 10 ∧ I 8 10 < 2147483648) ∧ ((¬ I 8 10 = 0 → Q (some (w_i (I 8 10))) I J b) ∧ (I 8 10 = 0 → ((-2147483648 ≤ I 8 12 ∧ I 8 12 < 2147483648) ∧ ((I 8 12 = 0 → Q (some (w_i (I 8 10))) I J b) ∧ (¬ I 8 12 = 0 → Q (some (w_i (I 8 12))) (w_U (w_U I 8 10 (I 8 12)) 8 11 (I 8 13)) J b))))))) ∧ (¬ l2 = 0 → ((0 ≤ I 8 9 ∧ I 8 9 < 402) ∧ ((-2147483648 ≤ I 15 (I 8 9) ∧ I 15 (I 8 9) < 2147483648) ∧ ((I 15 (I 8 9) = 0 → w_T xs xl 64 35 [some (.ref 8), u1, some (w_i 0), some (w_i (l3 + 1))] [] [] I J b Q) ∧ (¬ I 15 (I 8 9) = 0 → w_C xs xl 81 [.ref 8] I J b (fun v Ic Jc bc => w_T xs xl 64 62 [some (.ref 8), u1, some (w_i l2), some (w_i l3)] [] (w_pv v []) Ic Jc bc Q)))))))))))) : w_T xs xl 64 35 [some (.ref 8), u1, some (w_i l2), some (w_i l3)] [] [] I J b Q := by
  refine w_iload_n (q := 36) rfl rfl rfl ?_
  refine w_sipush (q := 39) rfl rfl rfl ?_
  obtain ⟨h1, k⟩ := k
  refine w_cgt (t := 77) (q := 42) rfl rfl rfl h1 (by decide) (fun c2 => ?_) (fun c2 => ?_)
  · replace k := k.1 c2
    refine w_aload_n (q := 78) rfl rfl rfl ?_
    refine w_gfi (q := 81) (k' := 10) (v := I 8 10) rfl rfl rfl rfl rfl rfl rfl ?_
    obtain ⟨h3, k⟩ := k
    refine w_zne (t := 107) (q := 84) rfl rfl rfl h3 (fun c4 => ?_) (fun c4 => ?_)
    · replace k := k.1 c4
      refine w_aload_n (q := 108) rfl rfl rfl ?_
      refine w_gfi (q := 111) (k' := 10) (v := I 8 10) rfl rfl rfl rfl rfl rfl rfl ?_
      exact w_iret rfl rfl k
    · replace k := k.2 c4
      refine w_aload_n (q := 85) rfl rfl rfl ?_
      refine w_gfi (q := 88) (k' := 12) (v := I 8 12) rfl rfl rfl rfl rfl rfl rfl ?_
      obtain ⟨h5, k⟩ := k
      refine w_zeq (t := 107) (q := 91) rfl rfl rfl h5 (fun c6 => ?_) (fun c6 => ?_)
      · replace k := k.1 c6
        refine w_aload_n (q := 108) rfl rfl rfl ?_
        refine w_gfi (q := 111) (k' := 10) (v := I 8 10) rfl rfl rfl rfl rfl rfl rfl ?_
        exact w_iret rfl rfl k
      · replace k := k.2 c6
        refine w_aload_n (q := 92) rfl rfl rfl ?_
        refine w_aload_n (q := 93) rfl rfl rfl ?_
        refine w_gfi (q := 96) (k' := 12) (v := I 8 12) rfl rfl rfl rfl rfl rfl rfl ?_
        refine w_pfi (q := 99) (k' := 10) rfl rfl rfl rfl ?_
        refine w_aload_n (q := 100) rfl rfl rfl ?_
        refine w_aload_n (q := 101) rfl rfl rfl ?_
        refine w_gfi (q := 104) (k' := 13) (v := I 8 13) rfl rfl rfl rfl rfl rfl rfl ?_
        refine w_pfi (q := 107) (k' := 11) rfl rfl rfl rfl ?_
        refine w_aload_n (q := 108) rfl rfl rfl ?_
        refine w_gfi (q := 111) (k' := 10) (v := I 8 12) rfl rfl rfl rfl rfl rfl rfl ?_
        exact w_iret rfl rfl k
  · replace k := k.2 c2
    refine w_iload_n (q := 43) rfl rfl rfl ?_
    obtain ⟨h7, k⟩ := k
    refine w_zeq (t := 77) (q := 46) rfl rfl rfl h7 (fun c8 => ?_) (fun c8 => ?_)
    · replace k := k.1 c8
      refine w_aload_n (q := 78) rfl rfl rfl ?_
      refine w_gfi (q := 81) (k' := 10) (v := I 8 10) rfl rfl rfl rfl rfl rfl rfl ?_
      obtain ⟨h9, k⟩ := k
      refine w_zne (t := 107) (q := 84) rfl rfl rfl h9 (fun c10 => ?_) (fun c10 => ?_)
      · replace k := k.1 c10
        refine w_aload_n (q := 108) rfl rfl rfl ?_
        refine w_gfi (q := 111) (k' := 10) (v := I 8 10) rfl rfl rfl rfl rfl rfl rfl ?_
        exact w_iret rfl rfl k
      · replace k := k.2 c10
        refine w_aload_n (q := 85) rfl rfl rfl ?_
        refine w_gfi (q := 88) (k' := 12) (v := I 8 12) rfl rfl rfl rfl rfl rfl rfl ?_
        obtain ⟨h11, k⟩ := k
        refine w_zeq (t := 107) (q := 91) rfl rfl rfl h11 (fun c12 => ?_) (fun c12 => ?_)
        · replace k := k.1 c12
          refine w_aload_n (q := 108) rfl rfl rfl ?_
          refine w_gfi (q := 111) (k' := 10) (v := I 8 10) rfl rfl rfl rfl rfl rfl rfl ?_
          exact w_iret rfl rfl k
        · replace k := k.2 c12
          refine w_aload_n (q := 92) rfl rfl rfl ?_
          refine w_aload_n (q := 93) rfl rfl rfl ?_
          refine w_gfi (q := 96) (k' := 12) (v := I 8 12) rfl rfl rfl rfl rfl rfl rfl ?_
          refine w_pfi (q := 99) (k' := 10) rfl rfl rfl rfl ?_
          refine w_aload_n (q := 100) rfl rfl rfl ?_
          refine w_aload_n (q := 101) rfl rfl rfl ?_
          refine w_gfi (q := 104) (k' := 13) (v := I 8 13) rfl rfl rfl rfl rfl rfl rfl ?_
          refine w_pfi (q := 107) (k' := 11) rfl rfl rfl rfl ?_
          refine w_aload_n (q := 108) rfl rfl rfl ?_
          refine w_gfi (q := 111) (k' := 10) (v := I 8 12) rfl rfl rfl rfl rfl rfl rfl ?_
          exact w_iret rfl rfl k
    · replace k := k.2 c8
      refine w_aload_n (q := 47) rfl rfl rfl ?_
      refine w_gfr (q := 50) rfl rfl rfl rfl (j := 15) rfl ?_
      refine w_aload_n (q := 51) rfl rfl rfl ?_
      refine w_gfi (q := 54) (k' := 9) (v := I 8 9) rfl rfl rfl rfl rfl rfl rfl ?_
      obtain ⟨h13, k⟩ := k
      refine w_iald (q := 55) (n := 402) (v := I 15 (I 8 9)) rfl rfl rfl rfl rfl rfl h13 ?_
      obtain ⟨h14, k⟩ := k
      refine w_zeq (t := 69) (q := 58) rfl rfl rfl h14 (fun c15 => ?_) (fun c15 => ?_)
      · replace k := k.1 c15
        refine w_iconst (q := 70) rfl rfl ?_
        refine w_istore_n (q := 71) (L' := [some (.ref 8), u1, some (w_i 0), some (w_i l3)]) (M' := []) rfl rfl rfl rfl rfl ?_
        refine w_iinc (q := 74) (L' := [some (.ref 8), u1, some (w_i 0), some (w_i (l3 + 1))]) (M' := []) rfl rfl rfl rfl rfl rfl ?_
        refine w_goto (t := 35) rfl rfl ?_
        exact k
      · replace k := k.2 c15
        refine w_aload_n (q := 59) rfl rfl rfl ?_
        refine w_callv (q := 62) rfl rfl rfl rfl rfl rfl ?_
        exact k
theorem b64_62 {xs : Nat → Int32} {xl : Nat} {I J : w_I} {b : Bool} {Q : Option Value → w_I → w_I → Bool → Prop} {u1 u2 : Option Value} {l3 s0 : Int} (k : ((-2147483648 ≤ s0 ∧ s0 < 2147483648) ∧ ((s0 = 0 → w_T xs xl 64 35 [some (.ref 8), u1, some (w_i 0), some (w_i (l3 + 1))] [] [] I J b Q) ∧ (¬ s0 = 0 → w_T xs xl 64 35 [some (.ref 8), u1, some (w_i 1), some (w_i (l3 + 1))] [] [] I J b Q)))) : w_T xs xl 64 62 [some (.ref 8), u1, u2, some (w_i l3)] [] [w_i s0] I J b Q := by
  obtain ⟨h1, k⟩ := k
  refine w_zeq (t := 69) (q := 65) rfl rfl rfl h1 (fun c2 => ?_) (fun c2 => ?_)
  · replace k := k.1 c2
    refine w_iconst (q := 70) rfl rfl ?_
    refine w_istore_n (q := 71) (L' := [some (.ref 8), u1, some (w_i 0), some (w_i l3)]) (M' := []) rfl rfl rfl rfl rfl ?_
    refine w_iinc (q := 74) (L' := [some (.ref 8), u1, some (w_i 0), some (w_i (l3 + 1))]) (M' := []) rfl rfl rfl rfl rfl rfl ?_
    refine w_goto (t := 35) rfl rfl ?_
    exact k
  · replace k := k.2 c2
    refine w_iconst (q := 66) rfl rfl ?_
    refine w_goto (t := 70) rfl rfl ?_
    refine w_istore_n (q := 71) (L' := [some (.ref 8), u1, some (w_i 1), some (w_i l3)]) (M' := []) rfl rfl rfl rfl rfl ?_
    refine w_iinc (q := 74) (L' := [some (.ref 8), u1, some (w_i 1), some (w_i (l3 + 1))]) (M' := []) rfl rfl rfl rfl rfl rfl ?_
    refine w_goto (t := 35) rfl rfl ?_
    exact k
theorem e65 {xs : Nat → Int32} {xl : Nat} {I J : w_I} {b : Bool} {Q : Option Value → w_I → w_I → Bool → Prop} (t : w_T xs xl 65 0 [some (.ref 8), none, none, none] [] [] I J b Q) : w_C xs xl 65 [.ref 8] I J b Q := w_en rfl t
theorem b65_0 {xs : Nat → Int32} {xl : Nat} {I J : w_I} {b : Bool} {Q : Option Value → w_I → w_I → Bool → Prop} (k : w_T xs xl 65 6 [some (.ref 8), some (w_i 0), some (w_i 1), some (w_i 0)] [] [] I J b Q) : w_T xs xl 65 0 [some (.ref 8), none, none, none] [] [] I J b Q := by
  refine w_iconst (q := 1) rfl rfl ?_
  refine w_istore_n (q := 2) (L' := [some (.ref 8), some (w_i 0), none, none]) (M' := []) rfl rfl rfl rfl rfl ?_
  refine w_iconst (q := 3) rfl rfl ?_
  refine w_istore_n (q := 4) (L' := [some (.ref 8), some (w_i 0), some (w_i 1), none]) (M' := []) rfl rfl rfl rfl rfl ?_
  refine w_iconst (q := 5) rfl rfl ?_
  refine w_istore_n (q := 6) (L' := [some (.ref 8), some (w_i 0), some (w_i 1), some (w_i 0)]) (M' := []) rfl rfl rfl rfl rfl ?_
  exact k
theorem b65_6 {xs : Nat → Int32} {xl : Nat} {I J : w_I} {b : Bool} {Q : Option Value → w_I → w_I → Bool → Prop} {l1 l2 l3 : Int} (k : ((-2147483648 ≤ l3 ∧ l3 < 2147483648) ∧ ((400 < l3 → Q none I J b) ∧ (¬ 400 < l3 → ((-2147483648 ≤ l2 ∧ l2 < 2147483648) ∧ ((l2 = 0 → Q none I J b) ∧ (¬ l2 = 0 → w_C xs xl 67 [.ref 8, w_i l1] I J b (fun v Ic Jc bc => w_T xs xl 65 22 [some (.ref 8), some (w_i l1), some (w_i l2), some (w_i l3)] [] (w_pv v []) Ic Jc bc Q)))))))) : w_T xs xl 65 6 [some (.ref 8), some (w_i l1), some (w_i l2), some (w_i l3)] [] [] I J b Q := by
  refine w_iload_n (q := 7) rfl rfl rfl ?_
  refine w_sipush (q := 10) rfl rfl rfl ?_
  obtain ⟨h1, k⟩ := k
  refine w_cgt (t := 70) (q := 13) rfl rfl rfl h1 (by decide) (fun c2 => ?_) (fun c2 => ?_)
  · replace k := k.1 c2
    exact w_vret rfl k
  · replace k := k.2 c2
    refine w_iload_n (q := 14) rfl rfl rfl ?_
    obtain ⟨h3, k⟩ := k
    refine w_zeq (t := 70) (q := 17) rfl rfl rfl h3 (fun c4 => ?_) (fun c4 => ?_)
    · replace k := k.1 c4
      exact w_vret rfl k
    · replace k := k.2 c4
      refine w_aload_n (q := 18) rfl rfl rfl ?_
      refine w_iload_n (q := 19) rfl rfl rfl ?_
      refine w_callv (q := 22) rfl rfl rfl rfl rfl rfl ?_
      exact k
theorem b65_22 {xs : Nat → Int32} {xl : Nat} {I J : w_I} {b : Bool} {Q : Option Value → w_I → w_I → Bool → Prop} {u1 u2 : Option Value} {l3 s0 : Int} (k : ((0 ≤ l3 ∧ l3 < 402) ∧ w_C xs xl 68 [.ref 8, w_i l3, w_i s0] (w_U I 17 l3 s0) J b (fun v Ic Jc bc => w_T xs xl 65 37 [some (.ref 8), some (w_i s0), u2, some (w_i l3)] [] (w_pv v [w_i s0]) Ic Jc bc Q))) : w_T xs xl 65 22 [some (.ref 8), u1, u2, some (w_i l3)] [] [w_i s0] I J b Q := by
  refine w_istore_n (q := 23) (L' := [some (.ref 8), some (w_i s0), u2, some (w_i l3)]) (M' := []) rfl rfl rfl rfl rfl ?_
  refine w_aload_n (q := 24) rfl rfl rfl ?_
  refine w_gfr (q := 27) rfl rfl rfl rfl (j := 17) rfl ?_
  refine w_iload_n (q := 28) rfl rfl rfl ?_
  refine w_iload_n (q := 29) rfl rfl rfl ?_
  obtain ⟨h1, k⟩ := k
  refine w_iast (q := 30) (n := 402) rfl rfl rfl rfl rfl h1 ?_
  refine w_iload_n (q := 31) rfl rfl rfl ?_
  refine w_aload_n (q := 32) rfl rfl rfl ?_
  refine w_iload_n (q := 33) rfl rfl rfl ?_
  refine w_iload_n (q := 34) rfl rfl rfl ?_
  refine w_callv (q := 37) rfl rfl rfl rfl rfl rfl ?_
  exact k
theorem b65_37 {xs : Nat → Int32} {xl : Nat} {I J : w_I} {b : Bool} {Q : Option Value → w_I → w_I → Bool → Prop} {u1 u2 : Option Value} {l3 s0 s1 : Int} (k : ((0 ≤ l3 ∧ l3 < 402) ∧ ((-2147483648 ≤ I 15 l3 ∧ I 15 l3 < 2147483648) ∧ ((I 15 l3 = 0 → w_T xs xl 65 6 [some (.ref 8), some (w_i (s0 + s1)), some (w_i 0), some (w_i (l3 + 1))] [] [] I J b Q) ∧ (¬ I 15 l3 = 0 → ((I 15 l3 = 1 → w_T xs xl 65 6 [some (.ref 8), some (w_i (s0 + s1)), some (w_i 0), some (w_i (l3 + 1))] [] [] I J b Q) ∧ (¬ I 15 l3 = 1 → w_T xs xl 65 6 [some (.ref 8), some (w_i (s0 + s1)), some (w_i 1), some (w_i (l3 + 1))] [] [] I J b Q))))))) : w_T xs xl 65 37 [some (.ref 8), u1, u2, some (w_i l3)] [] [w_i s1, w_i s0] I J b Q := by
  refine w_iadd (q := 38) rfl rfl ?_
  refine w_istore_n (q := 39) (L' := [some (.ref 8), some (w_i (s0 + s1)), u2, some (w_i l3)]) (M' := []) rfl rfl rfl rfl rfl ?_
  refine w_aload_n (q := 40) rfl rfl rfl ?_
  refine w_gfr (q := 43) rfl rfl rfl rfl (j := 15) rfl ?_
  refine w_iload_n (q := 44) rfl rfl rfl ?_
  obtain ⟨h1, k⟩ := k
  refine w_iald (q := 45) (n := 402) (v := I 15 l3) rfl rfl rfl rfl rfl rfl h1 ?_
  obtain ⟨h2, k⟩ := k
  refine w_zeq (t := 62) (q := 48) rfl rfl rfl h2 (fun c3 => ?_) (fun c3 => ?_)
  · replace k := k.1 c3
    refine w_iconst (q := 63) rfl rfl ?_
    refine w_istore_n (q := 64) (L' := [some (.ref 8), some (w_i (s0 + s1)), some (w_i 0), some (w_i l3)]) (M' := []) rfl rfl rfl rfl rfl ?_
    refine w_iinc (q := 67) (L' := [some (.ref 8), some (w_i (s0 + s1)), some (w_i 0), some (w_i (l3 + 1))]) (M' := []) rfl rfl rfl rfl rfl rfl ?_
    refine w_goto (t := 6) rfl rfl ?_
    exact k
  · replace k := k.2 c3
    refine w_aload_n (q := 49) rfl rfl rfl ?_
    refine w_gfr (q := 52) rfl rfl rfl rfl (j := 15) rfl ?_
    refine w_iload_n (q := 53) rfl rfl rfl ?_
    refine w_iald (q := 54) (n := 402) (v := I 15 l3) rfl rfl rfl rfl rfl rfl h1 ?_
    refine w_iconst (q := 55) rfl rfl ?_
    refine w_ceq (t := 62) (q := 58) rfl rfl rfl h2 (by decide) (fun c4 => ?_) (fun c4 => ?_)
    · replace k := k.1 c4
      refine w_iconst (q := 63) rfl rfl ?_
      refine w_istore_n (q := 64) (L' := [some (.ref 8), some (w_i (s0 + s1)), some (w_i 0), some (w_i l3)]) (M' := []) rfl rfl rfl rfl rfl ?_
      refine w_iinc (q := 67) (L' := [some (.ref 8), some (w_i (s0 + s1)), some (w_i 0), some (w_i (l3 + 1))]) (M' := []) rfl rfl rfl rfl rfl rfl ?_
      refine w_goto (t := 6) rfl rfl ?_
      exact k
    · replace k := k.2 c4
      refine w_iconst (q := 59) rfl rfl ?_
      refine w_goto (t := 63) rfl rfl ?_
      refine w_istore_n (q := 64) (L' := [some (.ref 8), some (w_i (s0 + s1)), some (w_i 1), some (w_i l3)]) (M' := []) rfl rfl rfl rfl rfl ?_
      refine w_iinc (q := 67) (L' := [some (.ref 8), some (w_i (s0 + s1)), some (w_i 1), some (w_i (l3 + 1))]) (M' := []) rfl rfl rfl rfl rfl rfl ?_
      refine w_goto (t := 6) rfl rfl ?_
      exact k
theorem e66 {xs : Nat → Int32} {xl : Nat} {I J : w_I} {b : Bool} {Q : Option Value → w_I → w_I → Bool → Prop} {a1 : Int} (t : w_T xs xl 66 0 [some (.ref 8), some (w_i a1)] [] [] I J b Q) : w_C xs xl 66 [.ref 8, w_i a1] I J b Q := w_en rfl t
theorem b66_0 {xs : Nat → Int32} {xl : Nat} {I J : w_I} {b : Bool} {Q : Option Value → w_I → w_I → Bool → Prop} {a1 : Int} (k : ((-2147483648 ≤ a1 ∧ a1 < 2147483648) ∧ (-2147483648 ≤ I 8 8 ∧ I 8 8 < 2147483648) ∧ ((I 8 8 ≤ a1 → Q (some (w_i 0)) I J b) ∧ (¬ I 8 8 ≤ a1 → ((0 ≤ a1 ∧ a1 < 2000) ∧ Q (some (w_i (w_and (I 1 a1) 255))) I J b))))) : w_T xs xl 66 0 [some (.ref 8), some (w_i a1)] [] [] I J b Q := by
  refine w_iload_n (q := 1) rfl rfl rfl ?_
  refine w_aload_n (q := 2) rfl rfl rfl ?_
  refine w_gfi (q := 5) (k' := 8) (v := I 8 8) rfl rfl rfl rfl rfl rfl rfl ?_
  obtain ⟨h1, h2, k⟩ := k
  refine w_cge (t := 21) (q := 8) rfl rfl rfl h1 h2 (fun c3 => ?_) (fun c3 => ?_)
  · replace k := k.1 c3
    refine w_iconst (q := 22) rfl rfl ?_
    exact w_iret rfl rfl k
  · replace k := k.2 c3
    refine w_aload_n (q := 9) rfl rfl rfl ?_
    refine w_gfr (q := 12) rfl rfl rfl rfl (j := 1) rfl ?_
    refine w_iload_n (q := 13) rfl rfl rfl ?_
    obtain ⟨h4, k⟩ := k
    refine w_bald1 (q := 14) (n := 2000) (v := I 1 a1) rfl rfl rfl rfl rfl rfl h4 ?_
    refine w_sipush (q := 17) rfl rfl rfl ?_
    refine w_iand (q := 18) rfl rfl ?_
    refine w_goto (t := 22) rfl rfl ?_
    exact w_iret rfl rfl k
theorem e67 {xs : Nat → Int32} {xl : Nat} {I J : w_I} {b : Bool} {Q : Option Value → w_I → w_I → Bool → Prop} {a1 : Int} (t : w_T xs xl 67 0 [some (.ref 8), some (w_i a1), none, none] [] [] I J b Q) : w_C xs xl 67 [.ref 8, w_i a1] I J b Q := w_en rfl t
theorem b67_0 {xs : Nat → Int32} {xl : Nat} {I J : w_I} {b : Bool} {Q : Option Value → w_I → w_I → Bool → Prop} {a1 : Int} (k : w_T xs xl 67 2 [some (.ref 8), some (w_i a1), some (w_i a1), none] [] [] I J b Q) : w_T xs xl 67 0 [some (.ref 8), some (w_i a1), none, none] [] [] I J b Q := by
  refine w_iload_n (q := 1) rfl rfl rfl ?_
  refine w_istore_n (q := 2) (L' := [some (.ref 8), some (w_i a1), some (w_i a1), none]) (M' := []) rfl rfl rfl rfl rfl ?_
  exact k
theorem b67_2 {xs : Nat → Int32} {xl : Nat} {I J : w_I} {b : Bool} {Q : Option Value → w_I → w_I → Bool → Prop} {u1 u3 : Option Value} {l2 : Int} (k : ((-2147483648 ≤ l2 ∧ l2 < 2147483648) ∧ (-2147483648 ≤ I 8 8 ∧ I 8 8 < 2147483648) ∧ ((I 8 8 ≤ l2 → Q (some (w_i (I 8 8))) I J b) ∧ (¬ I 8 8 ≤ l2 → w_C xs xl 66 [.ref 8, w_i l2] I J b (fun v Ic Jc bc => w_T xs xl 67 15 [some (.ref 8), u1, some (w_i l2), u3] [] (w_pv v []) Ic Jc bc Q))))) : w_T xs xl 67 2 [some (.ref 8), u1, some (w_i l2), u3] [] [] I J b Q := by
  refine w_iload_n (q := 3) rfl rfl rfl ?_
  refine w_aload_n (q := 4) rfl rfl rfl ?_
  refine w_gfi (q := 7) (k' := 8) (v := I 8 8) rfl rfl rfl rfl rfl rfl rfl ?_
  obtain ⟨h1, h2, k⟩ := k
  refine w_cge (t := 48) (q := 10) rfl rfl rfl h1 h2 (fun c3 => ?_) (fun c3 => ?_)
  · replace k := k.1 c3
    refine w_aload_n (q := 49) rfl rfl rfl ?_
    refine w_gfi (q := 52) (k' := 8) (v := I 8 8) rfl rfl rfl rfl rfl rfl rfl ?_
    exact w_iret rfl rfl k
  · replace k := k.2 c3
    refine w_aload_n (q := 11) rfl rfl rfl ?_
    refine w_iload_n (q := 12) rfl rfl rfl ?_
    refine w_callv (q := 15) rfl rfl rfl rfl rfl rfl ?_
    exact k
theorem b67_15 {xs : Nat → Int32} {xl : Nat} {I J : w_I} {b : Bool} {Q : Option Value → w_I → w_I → Bool → Prop} {u1 u3 : Option Value} {l2 s0 : Int} (k : ((-2147483648 ≤ s0 ∧ s0 < 2147483648) ∧ ((s0 = 32 → w_T xs xl 67 2 [some (.ref 8), u1, some (w_i (l2 + 1)), some (w_i s0)] [] [] I J b Q) ∧ (¬ s0 = 32 → ((s0 = 9 → w_T xs xl 67 2 [some (.ref 8), u1, some (w_i (l2 + 1)), some (w_i s0)] [] [] I J b Q) ∧ (¬ s0 = 9 → ((s0 = 10 → w_T xs xl 67 2 [some (.ref 8), u1, some (w_i (l2 + 1)), some (w_i s0)] [] [] I J b Q) ∧ (¬ s0 = 10 → ((s0 = 13 → w_T xs xl 67 2 [some (.ref 8), u1, some (w_i (l2 + 1)), some (w_i s0)] [] [] I J b Q) ∧ (¬ s0 = 13 → Q (some (w_i l2)) I J b)))))))))) : w_T xs xl 67 15 [some (.ref 8), u1, some (w_i l2), u3] [] [w_i s0] I J b Q := by
  refine w_istore_n (q := 16) (L' := [some (.ref 8), u1, some (w_i l2), some (w_i s0)]) (M' := []) rfl rfl rfl rfl rfl ?_
  refine w_iload_n (q := 17) rfl rfl rfl ?_
  refine w_bipush (q := 19) rfl rfl rfl ?_
  obtain ⟨h1, k⟩ := k
  refine w_ceq (t := 42) (q := 22) rfl rfl rfl h1 (by decide) (fun c2 => ?_) (fun c2 => ?_)
  · replace k := k.1 c2
    refine w_iinc (q := 45) (L' := [some (.ref 8), u1, some (w_i (l2 + 1)), some (w_i s0)]) (M' := []) rfl rfl rfl rfl rfl rfl ?_
    refine w_goto (t := 2) rfl rfl ?_
    exact k
  · replace k := k.2 c2
    refine w_iload_n (q := 23) rfl rfl rfl ?_
    refine w_bipush (q := 25) rfl rfl rfl ?_
    refine w_ceq (t := 42) (q := 28) rfl rfl rfl h1 (by decide) (fun c3 => ?_) (fun c3 => ?_)
    · replace k := k.1 c3
      refine w_iinc (q := 45) (L' := [some (.ref 8), u1, some (w_i (l2 + 1)), some (w_i s0)]) (M' := []) rfl rfl rfl rfl rfl rfl ?_
      refine w_goto (t := 2) rfl rfl ?_
      exact k
    · replace k := k.2 c3
      refine w_iload_n (q := 29) rfl rfl rfl ?_
      refine w_bipush (q := 31) rfl rfl rfl ?_
      refine w_ceq (t := 42) (q := 34) rfl rfl rfl h1 (by decide) (fun c4 => ?_) (fun c4 => ?_)
      · replace k := k.1 c4
        refine w_iinc (q := 45) (L' := [some (.ref 8), u1, some (w_i (l2 + 1)), some (w_i s0)]) (M' := []) rfl rfl rfl rfl rfl rfl ?_
        refine w_goto (t := 2) rfl rfl ?_
        exact k
      · replace k := k.2 c4
        refine w_iload_n (q := 35) rfl rfl rfl ?_
        refine w_bipush (q := 37) rfl rfl rfl ?_
        refine w_ceq (t := 42) (q := 40) rfl rfl rfl h1 (by decide) (fun c5 => ?_) (fun c5 => ?_)
        · replace k := k.1 c5
          refine w_iinc (q := 45) (L' := [some (.ref 8), u1, some (w_i (l2 + 1)), some (w_i s0)]) (M' := []) rfl rfl rfl rfl rfl rfl ?_
          refine w_goto (t := 2) rfl rfl ?_
          exact k
        · replace k := k.2 c5
          refine w_iload_n (q := 41) rfl rfl rfl ?_
          exact w_iret rfl rfl k
theorem e68 {xs : Nat → Int32} {xl : Nat} {I J : w_I} {b : Bool} {Q : Option Value → w_I → w_I → Bool → Prop} {a1 a2 : Int} (t : w_T xs xl 68 0 [some (.ref 8), some (w_i a1), some (w_i a2), none, none] [] [] I J b Q) : w_C xs xl 68 [.ref 8, w_i a1, w_i a2] I J b Q := w_en rfl t
theorem b68_0 {xs : Nat → Int32} {xl : Nat} {I J : w_I} {b : Bool} {Q : Option Value → w_I → w_I → Bool → Prop} {a1 a2 : Int} (k : w_C xs xl 66 [.ref 8, w_i a2] I J b (fun v Ic Jc bc => w_T xs xl 68 5 [some (.ref 8), some (w_i a1), some (w_i a2), none, none] [] (w_pv v []) Ic Jc bc Q)) : w_T xs xl 68 0 [some (.ref 8), some (w_i a1), some (w_i a2), none, none] [] [] I J b Q := by
  refine w_aload_n (q := 1) rfl rfl rfl ?_
  refine w_iload_n (q := 2) rfl rfl rfl ?_
  refine w_callv (q := 5) rfl rfl rfl rfl rfl rfl ?_
  exact k
theorem b68_5 {xs : Nat → Int32} {xl : Nat} {I J : w_I} {b : Bool} {Q : Option Value → w_I → w_I → Bool → Prop} {l1 l2 s0 : Int} {u3 u4 : Option Value} (k : ((0 ≤ l1 ∧ l1 < 402) ∧ ((-2147483648 ≤ l2 ∧ l2 < 2147483648) ∧ (-2147483648 ≤ I 8 8 ∧ I 8 8 < 2147483648) ∧ ((l2 < I 8 8 → ((-2147483648 ≤ s0 ∧ s0 < 2147483648) ∧ ((s0 < 97 → ((s0 < 48 → w_C xs xl 66 [.ref 8, w_i (l2 + 1)] (w_U I 16 l1 0) J b (fun v Ic Jc bc => w_T xs xl 68 75 [some (.ref 8), some (w_i l1), some (w_i l2), some (w_i s0), u4] [] (w_pv v []) Ic Jc bc Q)) ∧ (¬ s0 < 48 → ((57 < s0 → w_C xs xl 66 [.ref 8, w_i (l2 + 1)] (w_U I 16 l1 0) J b (fun v Ic Jc bc => w_T xs xl 68 75 [some (.ref 8), some (w_i l1), some (w_i l2), some (w_i s0), u4] [] (w_pv v []) Ic Jc bc Q)) ∧ (¬ 57 < s0 → w_C xs xl 71 [.ref 8, w_i l1, w_i l2] (w_U I 16 l1 0) J b (fun v Ic Jc bc => w_T xs xl 68 67 [some (.ref 8), some (w_i l1), some (w_i l2), some (w_i s0), u4] [] (w_pv v []) Ic Jc bc Q)))))) ∧ (¬ s0 < 97 → ((122 < s0 → ((s0 < 48 → w_C xs xl 66 [.ref 8, w_i (l2 + 1)] (w_U I 16 l1 0) J b (fun v Ic Jc bc => w_T xs xl 68 75 [some (.ref 8), some (w_i l1), some (w_i l2), some (w_i s0), u4] [] (w_pv v []) Ic Jc bc Q)) ∧ (¬ s0 < 48 → ((57 < s0 → w_C xs xl 66 [.ref 8, w_i (l2 + 1)] (w_U I 16 l1 0) J b (fun v Ic Jc bc => w_T xs xl 68 75 [some (.ref 8), some (w_i l1), some (w_i l2), some (w_i s0), u4] [] (w_pv v []) Ic Jc bc Q)) ∧ (¬ 57 < s0 → w_C xs xl 71 [.ref 8, w_i l1, w_i l2] (w_U I 16 l1 0) J b (fun v Ic Jc bc => w_T xs xl 68 67 [some (.ref 8), some (w_i l1), some (w_i l2), some (w_i s0), u4] [] (w_pv v []) Ic Jc bc Q)))))) ∧ (¬ 122 < s0 → w_C xs xl 70 [.ref 8, w_i l1, w_i l2] (w_U I 16 l1 0) J b (fun v Ic Jc bc => w_T xs xl 68 48 [some (.ref 8), some (w_i l1), some (w_i l2), some (w_i s0), u4] [] (w_pv v []) Ic Jc bc Q))))))) ∧ (¬ l2 < I 8 8 → Q (some (w_i 0)) (w_U (w_U I 16 l1 0) 15 l1 0) J b))))) : w_T xs xl 68 5 [some (.ref 8), some (w_i l1), some (w_i l2), u3, u4] [] [w_i s0] I J b Q := by
  refine w_istore_n (q := 6) (L' := [some (.ref 8), some (w_i l1), some (w_i l2), some (w_i s0), u4]) (M' := []) rfl rfl rfl rfl rfl ?_
  refine w_aload_n (q := 7) rfl rfl rfl ?_
  refine w_gfr (q := 10) rfl rfl rfl rfl (j := 16) rfl ?_
  refine w_iload_n (q := 11) rfl rfl rfl ?_
  refine w_iconst (q := 12) rfl rfl ?_
  obtain ⟨h1, k⟩ := k
  refine w_iast (q := 13) (n := 402) rfl rfl rfl rfl rfl h1 ?_
  refine w_iload_n (q := 14) rfl rfl rfl ?_
  refine w_aload_n (q := 15) rfl rfl rfl ?_
  refine w_gfi (q := 18) (k' := 8) (v := I 8 8) rfl rfl rfl rfl rfl rfl rfl ?_
  obtain ⟨h2, h3, k⟩ := k
  refine w_clt (t := 30) (q := 21) rfl rfl rfl h2 h3 (fun c4 => ?_) (fun c4 => ?_)
  · replace k := k.1 c4
    refine w_iload_n (q := 31) rfl rfl rfl ?_
    refine w_bipush (q := 33) rfl rfl rfl ?_
    obtain ⟨h5, k⟩ := k
    refine w_clt (t := 49) (q := 36) rfl rfl rfl h5 (by decide) (fun c6 => ?_) (fun c6 => ?_)
    · replace k := k.1 c6
      refine w_iload_n (q := 50) rfl rfl rfl ?_
      refine w_bipush (q := 52) rfl rfl rfl ?_
      refine w_clt (t := 68) (q := 55) rfl rfl rfl h5 (by decide) (fun c7 => ?_) (fun c7 => ?_)
      · replace k := k.1 c7
        refine w_aload_n (q := 69) rfl rfl rfl ?_
        refine w_iload_n (q := 70) rfl rfl rfl ?_
        refine w_iconst (q := 71) rfl rfl ?_
        refine w_iadd (q := 72) rfl rfl ?_
        refine w_callv (q := 75) rfl rfl rfl rfl rfl rfl ?_
        exact k
      · replace k := k.2 c7
        refine w_iload_n (q := 56) rfl rfl rfl ?_
        refine w_bipush (q := 58) rfl rfl rfl ?_
        refine w_cgt (t := 68) (q := 61) rfl rfl rfl h5 (by decide) (fun c8 => ?_) (fun c8 => ?_)
        · replace k := k.1 c8
          refine w_aload_n (q := 69) rfl rfl rfl ?_
          refine w_iload_n (q := 70) rfl rfl rfl ?_
          refine w_iconst (q := 71) rfl rfl ?_
          refine w_iadd (q := 72) rfl rfl ?_
          refine w_callv (q := 75) rfl rfl rfl rfl rfl rfl ?_
          exact k
        · replace k := k.2 c8
          refine w_aload_n (q := 62) rfl rfl rfl ?_
          refine w_iload_n (q := 63) rfl rfl rfl ?_
          refine w_iload_n (q := 64) rfl rfl rfl ?_
          refine w_callv (q := 67) rfl rfl rfl rfl rfl rfl ?_
          exact k
    · replace k := k.2 c6
      refine w_iload_n (q := 37) rfl rfl rfl ?_
      refine w_bipush (q := 39) rfl rfl rfl ?_
      refine w_cgt (t := 49) (q := 42) rfl rfl rfl h5 (by decide) (fun c9 => ?_) (fun c9 => ?_)
      · replace k := k.1 c9
        refine w_iload_n (q := 50) rfl rfl rfl ?_
        refine w_bipush (q := 52) rfl rfl rfl ?_
        refine w_clt (t := 68) (q := 55) rfl rfl rfl h5 (by decide) (fun c10 => ?_) (fun c10 => ?_)
        · replace k := k.1 c10
          refine w_aload_n (q := 69) rfl rfl rfl ?_
          refine w_iload_n (q := 70) rfl rfl rfl ?_
          refine w_iconst (q := 71) rfl rfl ?_
          refine w_iadd (q := 72) rfl rfl ?_
          refine w_callv (q := 75) rfl rfl rfl rfl rfl rfl ?_
          exact k
        · replace k := k.2 c10
          refine w_iload_n (q := 56) rfl rfl rfl ?_
          refine w_bipush (q := 58) rfl rfl rfl ?_
          refine w_cgt (t := 68) (q := 61) rfl rfl rfl h5 (by decide) (fun c11 => ?_) (fun c11 => ?_)
          · replace k := k.1 c11
            refine w_aload_n (q := 69) rfl rfl rfl ?_
            refine w_iload_n (q := 70) rfl rfl rfl ?_
            refine w_iconst (q := 71) rfl rfl ?_
            refine w_iadd (q := 72) rfl rfl ?_
            refine w_callv (q := 75) rfl rfl rfl rfl rfl rfl ?_
            exact k
          · replace k := k.2 c11
            refine w_aload_n (q := 62) rfl rfl rfl ?_
            refine w_iload_n (q := 63) rfl rfl rfl ?_
            refine w_iload_n (q := 64) rfl rfl rfl ?_
            refine w_callv (q := 67) rfl rfl rfl rfl rfl rfl ?_
            exact k
      · replace k := k.2 c9
        refine w_aload_n (q := 43) rfl rfl rfl ?_
        refine w_iload_n (q := 44) rfl rfl rfl ?_
        refine w_iload_n (q := 45) rfl rfl rfl ?_
        refine w_callv (q := 48) rfl rfl rfl rfl rfl rfl ?_
        exact k
  · replace k := k.2 c4
    refine w_aload_n (q := 22) rfl rfl rfl ?_
    refine w_gfr (q := 25) rfl rfl rfl rfl (j := 15) rfl ?_
    refine w_iload_n (q := 26) rfl rfl rfl ?_
    refine w_iconst (q := 27) rfl rfl ?_
    refine w_iast (q := 28) (n := 402) rfl rfl rfl rfl rfl h1 ?_
    refine w_iconst (q := 29) rfl rfl ?_
    exact w_iret rfl rfl k
theorem b68_75 {xs : Nat → Int32} {xl : Nat} {I J : w_I} {b : Bool} {Q : Option Value → w_I → w_I → Bool → Prop} {l1 l3 s0 : Int} {u2 u4 : Option Value} (k : ((-2147483648 ≤ s0 ∧ s0 < 2147483648) ∧ ((¬ s0 = 61 → w_C xs xl 75 [w_i l3] I J b (fun v Ic Jc bc => w_T xs xl 68 126 [some (.ref 8), some (w_i l1), u2, some (w_i l3), some (w_i 0)] [] (w_pv v [w_i l1, .ref 15]) Ic Jc bc Q)) ∧ (s0 = 61 → ((-2147483648 ≤ l3 ∧ l3 < 2147483648) ∧ ((l3 = 61 → w_C xs xl 74 [w_i l3] I J b (fun v Ic Jc bc => w_T xs xl 68 119 [some (.ref 8), some (w_i l1), u2, some (w_i l3), some (w_i 1)] [] (w_pv v [w_i l1, .ref 15]) Ic Jc bc Q)) ∧ (¬ l3 = 61 → ((l3 = 33 → w_C xs xl 74 [w_i l3] I J b (fun v Ic Jc bc => w_T xs xl 68 119 [some (.ref 8), some (w_i l1), u2, some (w_i l3), some (w_i 1)] [] (w_pv v [w_i l1, .ref 15]) Ic Jc bc Q)) ∧ (¬ l3 = 33 → ((¬ l3 = 60 → w_C xs xl 75 [w_i l3] I J b (fun v Ic Jc bc => w_T xs xl 68 126 [some (.ref 8), some (w_i l1), u2, some (w_i l3), some (w_i 0)] [] (w_pv v [w_i l1, .ref 15]) Ic Jc bc Q)) ∧ (l3 = 60 → w_C xs xl 74 [w_i l3] I J b (fun v Ic Jc bc => w_T xs xl 68 119 [some (.ref 8), some (w_i l1), u2, some (w_i l3), some (w_i 1)] [] (w_pv v [w_i l1, .ref 15]) Ic Jc bc Q)))))))))))) : w_T xs xl 68 75 [some (.ref 8), some (w_i l1), u2, some (w_i l3), u4] [] [w_i s0] I J b Q := by
  refine w_bipush (q := 77) rfl rfl rfl ?_
  obtain ⟨h1, k⟩ := k
  refine w_cne (t := 102) (q := 80) rfl rfl rfl h1 (by decide) (fun c2 => ?_) (fun c2 => ?_)
  · replace k := k.1 c2
    refine w_iconst (q := 103) rfl rfl ?_
    refine w_istore (q := 105) (L' := [some (.ref 8), some (w_i l1), u2, some (w_i l3), some (w_i 0)]) (M' := []) rfl rfl rfl rfl rfl ?_
    refine w_aload_n (q := 106) rfl rfl rfl ?_
    refine w_gfr (q := 109) rfl rfl rfl rfl (j := 15) rfl ?_
    refine w_iload_n (q := 110) rfl rfl rfl ?_
    refine w_iload (q := 112) rfl rfl rfl ?_
    refine w_zeq (t := 122) (q := 115) rfl rfl rfl (by decide) (fun _ => ?_) (fun w => absurd w (by decide))
    refine w_iload_n (q := 123) rfl rfl rfl ?_
    refine w_call (q := 126) rfl rfl rfl rfl rfl ?_
    exact k
  · replace k := k.2 c2
    refine w_iload_n (q := 81) rfl rfl rfl ?_
    refine w_bipush (q := 83) rfl rfl rfl ?_
    obtain ⟨h3, k⟩ := k
    refine w_ceq (t := 98) (q := 86) rfl rfl rfl h3 (by decide) (fun c4 => ?_) (fun c4 => ?_)
    · replace k := k.1 c4
      refine w_iconst (q := 99) rfl rfl ?_
      refine w_goto (t := 103) rfl rfl ?_
      refine w_istore (q := 105) (L' := [some (.ref 8), some (w_i l1), u2, some (w_i l3), some (w_i 1)]) (M' := []) rfl rfl rfl rfl rfl ?_
      refine w_aload_n (q := 106) rfl rfl rfl ?_
      refine w_gfr (q := 109) rfl rfl rfl rfl (j := 15) rfl ?_
      refine w_iload_n (q := 110) rfl rfl rfl ?_
      refine w_iload (q := 112) rfl rfl rfl ?_
      refine w_zeq (t := 122) (q := 115) rfl rfl rfl (by decide) (fun w => absurd w (by decide)) (fun _ => ?_)
      refine w_iload_n (q := 116) rfl rfl rfl ?_
      refine w_call (q := 119) rfl rfl rfl rfl rfl ?_
      exact k
    · replace k := k.2 c4
      refine w_iload_n (q := 87) rfl rfl rfl ?_
      refine w_bipush (q := 89) rfl rfl rfl ?_
      refine w_ceq (t := 98) (q := 92) rfl rfl rfl h3 (by decide) (fun c5 => ?_) (fun c5 => ?_)
      · replace k := k.1 c5
        refine w_iconst (q := 99) rfl rfl ?_
        refine w_goto (t := 103) rfl rfl ?_
        refine w_istore (q := 105) (L' := [some (.ref 8), some (w_i l1), u2, some (w_i l3), some (w_i 1)]) (M' := []) rfl rfl rfl rfl rfl ?_
        refine w_aload_n (q := 106) rfl rfl rfl ?_
        refine w_gfr (q := 109) rfl rfl rfl rfl (j := 15) rfl ?_
        refine w_iload_n (q := 110) rfl rfl rfl ?_
        refine w_iload (q := 112) rfl rfl rfl ?_
        refine w_zeq (t := 122) (q := 115) rfl rfl rfl (by decide) (fun w => absurd w (by decide)) (fun _ => ?_)
        refine w_iload_n (q := 116) rfl rfl rfl ?_
        refine w_call (q := 119) rfl rfl rfl rfl rfl ?_
        exact k
      · replace k := k.2 c5
        refine w_iload_n (q := 93) rfl rfl rfl ?_
        refine w_bipush (q := 95) rfl rfl rfl ?_
        refine w_cne (t := 102) (q := 98) rfl rfl rfl h3 (by decide) (fun c6 => ?_) (fun c6 => ?_)
        · replace k := k.1 c6
          refine w_iconst (q := 103) rfl rfl ?_
          refine w_istore (q := 105) (L' := [some (.ref 8), some (w_i l1), u2, some (w_i l3), some (w_i 0)]) (M' := []) rfl rfl rfl rfl rfl ?_
          refine w_aload_n (q := 106) rfl rfl rfl ?_
          refine w_gfr (q := 109) rfl rfl rfl rfl (j := 15) rfl ?_
          refine w_iload_n (q := 110) rfl rfl rfl ?_
          refine w_iload (q := 112) rfl rfl rfl ?_
          refine w_zeq (t := 122) (q := 115) rfl rfl rfl (by decide) (fun _ => ?_) (fun w => absurd w (by decide))
          refine w_iload_n (q := 123) rfl rfl rfl ?_
          refine w_call (q := 126) rfl rfl rfl rfl rfl ?_
          exact k
        · replace k := k.2 c6
          refine w_iconst (q := 99) rfl rfl ?_
          refine w_goto (t := 103) rfl rfl ?_
          refine w_istore (q := 105) (L' := [some (.ref 8), some (w_i l1), u2, some (w_i l3), some (w_i 1)]) (M' := []) rfl rfl rfl rfl rfl ?_
          refine w_aload_n (q := 106) rfl rfl rfl ?_
          refine w_gfr (q := 109) rfl rfl rfl rfl (j := 15) rfl ?_
          refine w_iload_n (q := 110) rfl rfl rfl ?_
          refine w_iload (q := 112) rfl rfl rfl ?_
          refine w_zeq (t := 122) (q := 115) rfl rfl rfl (by decide) (fun w => absurd w (by decide)) (fun _ => ?_)
          refine w_iload_n (q := 116) rfl rfl rfl ?_
          refine w_call (q := 119) rfl rfl rfl rfl rfl ?_
          exact k
theorem b68_67 {xs : Nat → Int32} {xl : Nat} {I J : w_I} {b : Bool} {Q : Option Value → w_I → w_I → Bool → Prop} {u1 u2 u3 u4 : Option Value} {s0 : Int} (k : Q (some (w_i s0)) I J b) : w_T xs xl 68 67 [some (.ref 8), u1, u2, u3, u4] [] [w_i s0] I J b Q := by
  exact w_iret rfl rfl k
theorem b68_48 {xs : Nat → Int32} {xl : Nat} {I J : w_I} {b : Bool} {Q : Option Value → w_I → w_I → Bool → Prop} {u1 u2 u3 u4 : Option Value} {s0 : Int} (k : Q (some (w_i s0)) I J b) : w_T xs xl 68 48 [some (.ref 8), u1, u2, u3, u4] [] [w_i s0] I J b Q := by
  exact w_iret rfl rfl k
theorem b68_126 {xs : Nat → Int32} {xl : Nat} {I J : w_I} {b : Bool} {Q : Option Value → w_I → w_I → Bool → Prop} {u1 u2 u3 : Option Value} {l4 s1 s2 : Int} (k : ((0 ≤ s1 ∧ s1 < 402) ∧ ((-2147483648 ≤ l4 ∧ l4 < 2147483648) ∧ ((l4 = 0 → Q (some (w_i 1)) (w_U I 15 s1 s2) J b) ∧ (¬ l4 = 0 → Q (some (w_i 2)) (w_U I 15 s1 s2) J b))))) : w_T xs xl 68 126 [some (.ref 8), u1, u2, u3, some (w_i l4)] [] [w_i s2, w_i s1, .ref 15] I J b Q := by
  obtain ⟨h1, k⟩ := k
  refine w_iast (q := 127) (n := 402) rfl rfl rfl rfl rfl h1 ?_
  refine w_iload (q := 129) rfl rfl rfl ?_
  obtain ⟨h2, k⟩ := k
  refine w_zeq (t := 136) (q := 132) rfl rfl rfl h2 (fun c3 => ?_) (fun c3 => ?_)
  · replace k := k.1 c3
    refine w_iconst (q := 137) rfl rfl ?_
    exact w_iret rfl rfl k
  · replace k := k.2 c3
    refine w_iconst (q := 133) rfl rfl ?_
    refine w_goto (t := 137) rfl rfl ?_
    exact w_iret rfl rfl k
theorem b68_119 {xs : Nat → Int32} {xl : Nat} {I J : w_I} {b : Bool} {Q : Option Value → w_I → w_I → Bool → Prop} {u1 u2 u3 : Option Value} {l4 s1 s2 : Int} (k : ((0 ≤ s1 ∧ s1 < 402) ∧ ((-2147483648 ≤ l4 ∧ l4 < 2147483648) ∧ ((l4 = 0 → Q (some (w_i 1)) (w_U I 15 s1 s2) J b) ∧ (¬ l4 = 0 → Q (some (w_i 2)) (w_U I 15 s1 s2) J b))))) : w_T xs xl 68 119 [some (.ref 8), u1, u2, u3, some (w_i l4)] [] [w_i s2, w_i s1, .ref 15] I J b Q := by
  refine w_goto (t := 126) rfl rfl ?_
  obtain ⟨h1, k⟩ := k
  refine w_iast (q := 127) (n := 402) rfl rfl rfl rfl rfl h1 ?_
  refine w_iload (q := 129) rfl rfl rfl ?_
  obtain ⟨h2, k⟩ := k
  refine w_zeq (t := 136) (q := 132) rfl rfl rfl h2 (fun c3 => ?_) (fun c3 => ?_)
  · replace k := k.1 c3
    refine w_iconst (q := 137) rfl rfl ?_
    exact w_iret rfl rfl k
  · replace k := k.2 c3
    refine w_iconst (q := 133) rfl rfl ?_
    refine w_goto (t := 137) rfl rfl ?_
    exact w_iret rfl rfl k
theorem e69 {xs : Nat → Int32} {xl : Nat} {I J : w_I} {b : Bool} {Q : Option Value → w_I → w_I → Bool → Prop} {a1 a2 a3 : Int} (t : w_T xs xl 69 0 [some (.ref 8), some (w_i a1), some (w_i a2), some (w_i a3), none] [] [] I J b Q) : w_C xs xl 69 [.ref 8, w_i a1, w_i a2, w_i a3] I J b Q := w_en rfl t
theorem b69_0 {xs : Nat → Int32} {xl : Nat} {I J : w_I} {b : Bool} {Q : Option Value → w_I → w_I → Bool → Prop} {a1 a2 a3 : Int} (k : w_T xs xl 69 3 [some (.ref 8), some (w_i a1), some (w_i a2), some (w_i a3), some (w_i a1)] [] [] I J b Q) : w_T xs xl 69 0 [some (.ref 8), some (w_i a1), some (w_i a2), some (w_i a3), none] [] [] I J b Q := by
  refine w_iload_n (q := 1) rfl rfl rfl ?_
  refine w_istore (q := 3) (L' := [some (.ref 8), some (w_i a1), some (w_i a2), some (w_i a3), some (w_i a1)]) (M' := []) rfl rfl rfl rfl rfl ?_
  exact k
theorem b69_3 {xs : Nat → Int32} {xl : Nat} {I J : w_I} {b : Bool} {Q : Option Value → w_I → w_I → Bool → Prop} {l1 l2 l3 l4 : Int} (k : ((-2147483648 ≤ l4 ∧ l4 < 2147483648) ∧ (-2147483648 ≤ I 8 8 ∧ I 8 8 < 2147483648) ∧ ((I 8 8 ≤ l4 → Q (some (w_i (l4 - l1))) I J b) ∧ (¬ I 8 8 ≤ l4 → w_C xs xl 66 [.ref 8, w_i l4] I J b (fun v Ic Jc bc => w_T xs xl 69 18 [some (.ref 8), some (w_i l1), some (w_i l2), some (w_i l3), some (w_i l4)] [] (w_pv v []) Ic Jc bc Q))))) : w_T xs xl 69 3 [some (.ref 8), some (w_i l1), some (w_i l2), some (w_i l3), some (w_i l4)] [] [] I J b Q := by
  refine w_iload (q := 5) rfl rfl rfl ?_
  refine w_aload_n (q := 6) rfl rfl rfl ?_
  refine w_gfi (q := 9) (k' := 8) (v := I 8 8) rfl rfl rfl rfl rfl rfl rfl ?_
  obtain ⟨h1, h2, k⟩ := k
  refine w_cge (t := 38) (q := 12) rfl rfl rfl h1 h2 (fun c3 => ?_) (fun c3 => ?_)
  · replace k := k.1 c3
    refine w_iload (q := 40) rfl rfl rfl ?_
    refine w_iload_n (q := 41) rfl rfl rfl ?_
    refine w_isub (q := 42) rfl rfl ?_
    exact w_iret rfl rfl k
  · replace k := k.2 c3
    refine w_aload_n (q := 13) rfl rfl rfl ?_
    refine w_iload (q := 15) rfl rfl rfl ?_
    refine w_callv (q := 18) rfl rfl rfl rfl rfl rfl ?_
    exact k
theorem b69_18 {xs : Nat → Int32} {xl : Nat} {I J : w_I} {b : Bool} {Q : Option Value → w_I → w_I → Bool → Prop} {l1 l2 l3 l4 s0 : Int} (k : ((-2147483648 ≤ s0 ∧ s0 < 2147483648) ∧ (-2147483648 ≤ l2 ∧ l2 < 2147483648) ∧ ((s0 < l2 → Q (some (w_i (l4 - l1))) I J b) ∧ (¬ s0 < l2 → w_C xs xl 66 [.ref 8, w_i l4] I J b (fun v Ic Jc bc => w_T xs xl 69 28 [some (.ref 8), some (w_i l1), some (w_i l2), some (w_i l3), some (w_i l4)] [] (w_pv v []) Ic Jc bc Q))))) : w_T xs xl 69 18 [some (.ref 8), some (w_i l1), some (w_i l2), some (w_i l3), some (w_i l4)] [] [w_i s0] I J b Q := by
  refine w_iload_n (q := 19) rfl rfl rfl ?_
  obtain ⟨h1, h2, k⟩ := k
  refine w_clt (t := 38) (q := 22) rfl rfl rfl h1 h2 (fun c3 => ?_) (fun c3 => ?_)
  · replace k := k.1 c3
    refine w_iload (q := 40) rfl rfl rfl ?_
    refine w_iload_n (q := 41) rfl rfl rfl ?_
    refine w_isub (q := 42) rfl rfl ?_
    exact w_iret rfl rfl k
  · replace k := k.2 c3
    refine w_aload_n (q := 23) rfl rfl rfl ?_
    refine w_iload (q := 25) rfl rfl rfl ?_
    refine w_callv (q := 28) rfl rfl rfl rfl rfl rfl ?_
    exact k
theorem b69_28 {xs : Nat → Int32} {xl : Nat} {I J : w_I} {b : Bool} {Q : Option Value → w_I → w_I → Bool → Prop} {l1 l2 l3 l4 s0 : Int} (k : ((-2147483648 ≤ s0 ∧ s0 < 2147483648) ∧ (-2147483648 ≤ l3 ∧ l3 < 2147483648) ∧ ((l3 < s0 → Q (some (w_i (l4 - l1))) I J b) ∧ (¬ l3 < s0 → w_T xs xl 69 3 [some (.ref 8), some (w_i l1), some (w_i l2), some (w_i l3), some (w_i (l4 + 1))] [] [] I J b Q)))) : w_T xs xl 69 28 [some (.ref 8), some (w_i l1), some (w_i l2), some (w_i l3), some (w_i l4)] [] [w_i s0] I J b Q := by
  refine w_iload_n (q := 29) rfl rfl rfl ?_
  obtain ⟨h1, h2, k⟩ := k
  refine w_cgt (t := 38) (q := 32) rfl rfl rfl h1 h2 (fun c3 => ?_) (fun c3 => ?_)
  · replace k := k.1 c3
    refine w_iload (q := 40) rfl rfl rfl ?_
    refine w_iload_n (q := 41) rfl rfl rfl ?_
    refine w_isub (q := 42) rfl rfl ?_
    exact w_iret rfl rfl k
  · replace k := k.2 c3
    refine w_iinc (q := 35) (L' := [some (.ref 8), some (w_i l1), some (w_i l2), some (w_i l3), some (w_i (l4 + 1))]) (M' := []) rfl rfl rfl rfl rfl rfl ?_
    refine w_goto (t := 3) rfl rfl ?_
    exact k
theorem e70 {xs : Nat → Int32} {xl : Nat} {I J : w_I} {b : Bool} {Q : Option Value → w_I → w_I → Bool → Prop} {a1 a2 : Int} (t : w_T xs xl 70 0 [some (.ref 8), some (w_i a1), some (w_i a2), none] [] [] I J b Q) : w_C xs xl 70 [.ref 8, w_i a1, w_i a2] I J b Q := w_en rfl t
theorem b70_0 {xs : Nat → Int32} {xl : Nat} {I J : w_I} {b : Bool} {Q : Option Value → w_I → w_I → Bool → Prop} {a1 a2 : Int} (k : w_C xs xl 69 [.ref 8, w_i a2, w_i 97, w_i 122] I J b (fun v Ic Jc bc => w_T xs xl 70 9 [some (.ref 8), some (w_i a1), some (w_i a2), none] [] (w_pv v []) Ic Jc bc Q)) : w_T xs xl 70 0 [some (.ref 8), some (w_i a1), some (w_i a2), none] [] [] I J b Q := by
  refine w_aload_n (q := 1) rfl rfl rfl ?_
  refine w_iload_n (q := 2) rfl rfl rfl ?_
  refine w_bipush (q := 4) rfl rfl rfl ?_
  refine w_bipush (q := 6) rfl rfl rfl ?_
  refine w_callv (q := 9) rfl rfl rfl rfl rfl rfl ?_
  exact k
theorem b70_9 {xs : Nat → Int32} {xl : Nat} {I J : w_I} {b : Bool} {Q : Option Value → w_I → w_I → Bool → Prop} {l1 l2 s0 : Int} {u3 : Option Value} (k : ((-2147483648 ≤ s0 ∧ s0 < 2147483648) ∧ ((s0 ≤ 8 → w_C xs xl 72 [.ref 8, w_i l2, w_i s0] I J b (fun v Ic Jc bc => w_T xs xl 70 31 [some (.ref 8), some (w_i l1), some (w_i l2), some (w_i s0)] [] (w_pv v [w_i l1, .ref 15]) Ic Jc bc Q)) ∧ (¬ s0 ≤ 8 → ((0 ≤ l1 ∧ l1 < 402) ∧ Q (some (w_i s0)) (w_U (w_U I 15 l1 1) 16 l1 s0) J b))))) : w_T xs xl 70 9 [some (.ref 8), some (w_i l1), some (w_i l2), u3] [] [w_i s0] I J b Q := by
  refine w_istore_n (q := 10) (L' := [some (.ref 8), some (w_i l1), some (w_i l2), some (w_i s0)]) (M' := []) rfl rfl rfl rfl rfl ?_
  refine w_aload_n (q := 11) rfl rfl rfl ?_
  refine w_gfr (q := 14) rfl rfl rfl rfl (j := 15) rfl ?_
  refine w_iload_n (q := 15) rfl rfl rfl ?_
  refine w_iload_n (q := 16) rfl rfl rfl ?_
  refine w_bipush (q := 18) rfl rfl rfl ?_
  obtain ⟨h1, k⟩ := k
  refine w_cle (t := 25) (q := 21) rfl rfl rfl h1 (by decide) (fun c2 => ?_) (fun c2 => ?_)
  · replace k := k.1 c2
    refine w_aload_n (q := 26) rfl rfl rfl ?_
    refine w_iload_n (q := 27) rfl rfl rfl ?_
    refine w_iload_n (q := 28) rfl rfl rfl ?_
    refine w_callv (q := 31) rfl rfl rfl rfl rfl rfl ?_
    exact k
  · replace k := k.2 c2
    refine w_iconst (q := 22) rfl rfl ?_
    refine w_goto (t := 31) rfl rfl ?_
    obtain ⟨h3, k⟩ := k
    refine w_iast (q := 32) (n := 402) rfl rfl rfl rfl rfl h3 ?_
    refine w_aload_n (q := 33) rfl rfl rfl ?_
    refine w_gfr (q := 36) rfl rfl rfl rfl (j := 16) rfl ?_
    refine w_iload_n (q := 37) rfl rfl rfl ?_
    refine w_iload_n (q := 38) rfl rfl rfl ?_
    refine w_iast (q := 39) (n := 402) rfl rfl rfl rfl rfl h3 ?_
    refine w_iload_n (q := 40) rfl rfl rfl ?_
    exact w_iret rfl rfl k
theorem b70_31 {xs : Nat → Int32} {xl : Nat} {I J : w_I} {b : Bool} {Q : Option Value → w_I → w_I → Bool → Prop} {l1 l3 s1 s2 : Int} {u2 : Option Value} (k : ((0 ≤ s1 ∧ s1 < 402) ∧ ((0 ≤ l1 ∧ l1 < 402) ∧ Q (some (w_i l3)) (w_U (w_U I 15 s1 s2) 16 l1 l3) J b))) : w_T xs xl 70 31 [some (.ref 8), some (w_i l1), u2, some (w_i l3)] [] [w_i s2, w_i s1, .ref 15] I J b Q := by
  obtain ⟨h1, k⟩ := k
  refine w_iast (q := 32) (n := 402) rfl rfl rfl rfl rfl h1 ?_
  refine w_aload_n (q := 33) rfl rfl rfl ?_
  refine w_gfr (q := 36) rfl rfl rfl rfl (j := 16) rfl ?_
  refine w_iload_n (q := 37) rfl rfl rfl ?_
  refine w_iload_n (q := 38) rfl rfl rfl ?_
  obtain ⟨h2, k⟩ := k
  refine w_iast (q := 39) (n := 402) rfl rfl rfl rfl rfl h2 ?_
  refine w_iload_n (q := 40) rfl rfl rfl ?_
  exact w_iret rfl rfl k
theorem e71 {xs : Nat → Int32} {xl : Nat} {I J : w_I} {b : Bool} {Q : Option Value → w_I → w_I → Bool → Prop} {a1 a2 : Int} (t : w_T xs xl 71 0 [some (.ref 8), some (w_i a1), some (w_i a2), none, none] [] [] I J b Q) : w_C xs xl 71 [.ref 8, w_i a1, w_i a2] I J b Q := w_en rfl t
theorem b71_0 {xs : Nat → Int32} {xl : Nat} {I J : w_I} {b : Bool} {Q : Option Value → w_I → w_I → Bool → Prop} {a1 a2 : Int} (k : w_C xs xl 69 [.ref 8, w_i a2, w_i 48, w_i 57] I J b (fun v Ic Jc bc => w_T xs xl 71 9 [some (.ref 8), some (w_i a1), some (w_i a2), none, none] [] (w_pv v []) Ic Jc bc Q)) : w_T xs xl 71 0 [some (.ref 8), some (w_i a1), some (w_i a2), none, none] [] [] I J b Q := by
  refine w_aload_n (q := 1) rfl rfl rfl ?_
  refine w_iload_n (q := 2) rfl rfl rfl ?_
  refine w_bipush (q := 4) rfl rfl rfl ?_
  refine w_bipush (q := 6) rfl rfl rfl ?_
  refine w_callv (q := 9) rfl rfl rfl rfl rfl rfl ?_
  exact k
theorem b71_9 {xs : Nat → Int32} {xl : Nat} {I J : w_I} {b : Bool} {Q : Option Value → w_I → w_I → Bool → Prop} {l1 l2 s0 : Int} {u3 u4 : Option Value} (k : ((-2147483648 ≤ s0 ∧ s0 < 2147483648) ∧ ((s0 ≤ 4 → ((0 ≤ l1 ∧ l1 < 402) ∧ w_T xs xl 71 29 [some (.ref 8), some (w_i l1), some (w_i l2), some (w_i s0), some (w_i 0)] [] [] (w_U I 15 l1 3) J b Q)) ∧ (¬ s0 ≤ 4 → ((0 ≤ l1 ∧ l1 < 402) ∧ w_T xs xl 71 29 [some (.ref 8), some (w_i l1), some (w_i l2), some (w_i s0), some (w_i 0)] [] [] (w_U I 15 l1 1) J b Q))))) : w_T xs xl 71 9 [some (.ref 8), some (w_i l1), some (w_i l2), u3, u4] [] [w_i s0] I J b Q := by
  refine w_istore_n (q := 10) (L' := [some (.ref 8), some (w_i l1), some (w_i l2), some (w_i s0), u4]) (M' := []) rfl rfl rfl rfl rfl ?_
  refine w_aload_n (q := 11) rfl rfl rfl ?_
  refine w_gfr (q := 14) rfl rfl rfl rfl (j := 15) rfl ?_
  refine w_iload_n (q := 15) rfl rfl rfl ?_
  refine w_iload_n (q := 16) rfl rfl rfl ?_
  refine w_iconst (q := 17) rfl rfl ?_
  obtain ⟨h1, k⟩ := k
  refine w_cle (t := 24) (q := 20) rfl rfl rfl h1 (by decide) (fun c2 => ?_) (fun c2 => ?_)
  · replace k := k.1 c2
    refine w_iconst (q := 25) rfl rfl ?_
    obtain ⟨h3, k⟩ := k
    refine w_iast (q := 26) (n := 402) rfl rfl rfl rfl rfl h3 ?_
    refine w_iconst (q := 27) rfl rfl ?_
    refine w_istore (q := 29) (L' := [some (.ref 8), some (w_i l1), some (w_i l2), some (w_i s0), some (w_i 0)]) (M' := []) rfl rfl rfl rfl rfl ?_
    exact k
  · replace k := k.2 c2
    refine w_iconst (q := 21) rfl rfl ?_
    refine w_goto (t := 25) rfl rfl ?_
    obtain ⟨h4, k⟩ := k
    refine w_iast (q := 26) (n := 402) rfl rfl rfl rfl rfl h4 ?_
    refine w_iconst (q := 27) rfl rfl ?_
    refine w_istore (q := 29) (L' := [some (.ref 8), some (w_i l1), some (w_i l2), some (w_i s0), some (w_i 0)]) (M' := []) rfl rfl rfl rfl rfl ?_
    exact k
theorem b71_29 {xs : Nat → Int32} {xl : Nat} {I J : w_I} {b : Bool} {Q : Option Value → w_I → w_I → Bool → Prop} {l1 l2 l3 l4 : Int} (k : ((-2147483648 ≤ l4 ∧ l4 < 2147483648) ∧ (-2147483648 ≤ l3 ∧ l3 < 2147483648) ∧ ((l3 ≤ l4 → Q (some (w_i l3)) I J b) ∧ (¬ l3 ≤ l4 → ((4 < l3 → Q (some (w_i l3)) I J b) ∧ (¬ 4 < l3 → ((0 ≤ l1 ∧ l1 < 402) ∧ w_C xs xl 66 [.ref 8, w_i (l2 + l4)] I J b (fun v Ic Jc bc => w_T xs xl 71 62 [some (.ref 8), some (w_i l1), some (w_i l2), some (w_i l3), some (w_i l4)] [] (w_pv v [w_i (I 16 l1 * 10), w_i l1, .ref 16]) Ic Jc bc Q)))))))) : w_T xs xl 71 29 [some (.ref 8), some (w_i l1), some (w_i l2), some (w_i l3), some (w_i l4)] [] [] I J b Q := by
  refine w_iload (q := 31) rfl rfl rfl ?_
  refine w_iload_n (q := 32) rfl rfl rfl ?_
  obtain ⟨h1, h2, k⟩ := k
  refine w_cge (t := 73) (q := 35) rfl rfl rfl h1 h2 (fun c3 => ?_) (fun c3 => ?_)
  · replace k := k.1 c3
    refine w_iload_n (q := 74) rfl rfl rfl ?_
    exact w_iret rfl rfl k
  · replace k := k.2 c3
    refine w_iload_n (q := 36) rfl rfl rfl ?_
    refine w_iconst (q := 37) rfl rfl ?_
    refine w_cgt (t := 73) (q := 40) rfl rfl rfl h2 (by decide) (fun c4 => ?_) (fun c4 => ?_)
    · replace k := k.1 c4
      refine w_iload_n (q := 74) rfl rfl rfl ?_
      exact w_iret rfl rfl k
    · replace k := k.2 c4
      refine w_aload_n (q := 41) rfl rfl rfl ?_
      refine w_gfr (q := 44) rfl rfl rfl rfl (j := 16) rfl ?_
      refine w_iload_n (q := 45) rfl rfl rfl ?_
      refine w_aload_n (q := 46) rfl rfl rfl ?_
      refine w_gfr (q := 49) rfl rfl rfl rfl (j := 16) rfl ?_
      refine w_iload_n (q := 50) rfl rfl rfl ?_
      obtain ⟨h5, k⟩ := k
      refine w_iald (q := 51) (n := 402) (v := I 16 l1) rfl rfl rfl rfl rfl rfl h5 ?_
      refine w_bipush (q := 53) rfl rfl rfl ?_
      refine w_imul (q := 54) rfl rfl ?_
      refine w_aload_n (q := 55) rfl rfl rfl ?_
      refine w_iload_n (q := 56) rfl rfl rfl ?_
      refine w_iload (q := 58) rfl rfl rfl ?_
      refine w_iadd (q := 59) rfl rfl ?_
      refine w_callv (q := 62) rfl rfl rfl rfl rfl rfl ?_
      exact k
theorem b71_62 {xs : Nat → Int32} {xl : Nat} {I J : w_I} {b : Bool} {Q : Option Value → w_I → w_I → Bool → Prop} {l1 l2 l3 l4 s1 s2 s3 : Int} (k : ((0 ≤ s1 ∧ s1 < 402) ∧ w_T xs xl 71 29 [some (.ref 8), some (w_i l1), some (w_i l2), some (w_i l3), some (w_i (l4 + 1))] [] [] (w_U I 16 s1 (s2 + s3 - 48)) J b Q)) : w_T xs xl 71 62 [some (.ref 8), some (w_i l1), some (w_i l2), some (w_i l3), some (w_i l4)] [] [w_i s3, w_i s2, w_i s1, .ref 16] I J b Q := by
  refine w_iadd (q := 63) rfl rfl ?_
  refine w_bipush (q := 65) rfl rfl rfl ?_
  refine w_isub (q := 66) rfl rfl ?_
  obtain ⟨h1, k⟩ := k
  refine w_iast (q := 67) (n := 402) rfl rfl rfl rfl rfl h1 ?_
  refine w_iinc (q := 70) (L' := [some (.ref 8), some (w_i l1), some (w_i l2), some (w_i l3), some (w_i (l4 + 1))]) (M' := []) rfl rfl rfl rfl rfl rfl ?_
  refine w_goto (t := 29) rfl rfl ?_
  exact k
theorem e72 {xs : Nat → Int32} {xl : Nat} {I J : w_I} {b : Bool} {Q : Option Value → w_I → w_I → Bool → Prop} {a1 a2 : Int} (t : w_T xs xl 72 0 [some (.ref 8), some (w_i a1), some (w_i a2), none, none, none] [] [] I J b Q) : w_C xs xl 72 [.ref 8, w_i a1, w_i a2] I J b Q := w_en rfl t
theorem b72_0 {xs : Nat → Int32} {xl : Nat} {I J : w_I} {b : Bool} {Q : Option Value → w_I → w_I → Bool → Prop} {a1 a2 : Int} (k : w_T xs xl 72 8 [some (.ref 8), some (w_i a1), some (w_i a2), some (w_i 0), some (w_i 0), some (w_i 0)] [] [] I J b Q) : w_T xs xl 72 0 [some (.ref 8), some (w_i a1), some (w_i a2), none, none, none] [] [] I J b Q := by
  refine w_iconst (q := 1) rfl rfl ?_
  refine w_istore_n (q := 2) (L' := [some (.ref 8), some (w_i a1), some (w_i a2), some (w_i 0), none, none]) (M' := []) rfl rfl rfl rfl rfl ?_
  refine w_iconst (q := 3) rfl rfl ?_
  refine w_istore (q := 5) (L' := [some (.ref 8), some (w_i a1), some (w_i a2), some (w_i 0), some (w_i 0), none]) (M' := []) rfl rfl rfl rfl rfl ?_
  refine w_iconst (q := 6) rfl rfl ?_
  refine w_istore (q := 8) (L' := [some (.ref 8), some (w_i a1), some (w_i a2), some (w_i 0), some (w_i 0), some (w_i 0)]) (M' := []) rfl rfl rfl rfl rfl ?_
  exact k
theorem b72_8 {xs : Nat → Int32} {xl : Nat} {I J : w_I} {b : Bool} {Q : Option Value → w_I → w_I → Bool → Prop} {l1 l2 l3 l4 l5 : Int} (k : w_C xs xl 289 [.ref x_ST] I J b (fun v Ic Jc bc => w_T xs xl 72 15 [some (.ref 8), some (w_i l1), some (w_i l2), some (w_i l3), some (w_i l4), some (w_i l5)] [] (w_pv v [w_i l5]) Ic Jc bc Q)) : w_T xs xl 72 8 [some (.ref 8), some (w_i l1), some (w_i l2), some (w_i l3), some (w_i l4), some (w_i l5)] [] [] I J b Q := by
  refine w_iload (q := 10) rfl rfl rfl ?_
  refine w_ldcS (q := 12) rfl rfl ?_
  refine w_callS (q := 15) rfl rfl rfl rfl ?_
  exact k
theorem b72_15 {xs : Nat → Int32} {xl : Nat} {I J : w_I} {b : Bool} {Q : Option Value → w_I → w_I → Bool → Prop} {l1 l2 l3 l4 l5 s0 s1 : Int} (k : ((-2147483648 ≤ s0 ∧ s0 < 2147483648) ∧ (-2147483648 ≤ s1 ∧ s1 < 2147483648) ∧ ((s1 ≤ s0 → Q (some (w_i 2)) I J b) ∧ (¬ s1 ≤ s0 → w_C xs xl 290 [.ref x_ST, w_i l5] I J b (fun v Ic Jc bc => w_T xs xl 72 25 [some (.ref 8), some (w_i l1), some (w_i l2), some (w_i l3), some (w_i l4), some (w_i l5)] [] (w_pv v []) Ic Jc bc Q))))) : w_T xs xl 72 15 [some (.ref 8), some (w_i l1), some (w_i l2), some (w_i l3), some (w_i l4), some (w_i l5)] [] [w_i s1, w_i s0] I J b Q := by
  obtain ⟨h1, h2, k⟩ := k
  refine w_cge (t := 70) (q := 18) rfl rfl rfl h1 h2 (fun c3 => ?_) (fun c3 => ?_)
  · replace k := k.1 c3
    refine w_iconst (q := 71) rfl rfl ?_
    exact w_iret rfl rfl k
  · replace k := k.2 c3
    refine w_ldcS (q := 20) rfl rfl ?_
    refine w_iload (q := 22) rfl rfl rfl ?_
    refine w_callS (q := 25) rfl rfl rfl rfl ?_
    exact k
theorem b72_25 {xs : Nat → Int32} {xl : Nat} {I J : w_I} {b : Bool} {Q : Option Value → w_I → w_I → Bool → Prop} {l1 l2 l3 l4 l5 s0 : Int} (k : ((-2147483648 ≤ s0 ∧ s0 < 2147483648) ∧ ((¬ s0 = 32 → w_T xs xl 72 8 [some (.ref 8), some (w_i l1), some (w_i l2), some (w_i l3), some (w_i l4), some (w_i (l5 + 1))] [] [] I J b Q) ∧ (s0 = 32 → ((-2147483648 ≤ l5 - l4 ∧ l5 - l4 < 2147483648) ∧ (-2147483648 ≤ l2 ∧ l2 < 2147483648) ∧ ((¬ l5 - l4 = l2 → w_T xs xl 72 8 [some (.ref 8), some (w_i l1), some (w_i l2), some (w_i (l3 + 1)), some (w_i (l5 + 1)), some (w_i (l5 + 1))] [] [] I J b Q) ∧ (l5 - l4 = l2 → w_C xs xl 73 [.ref 8, w_i l4, w_i l1, w_i l2] I J b (fun v Ic Jc bc => w_T xs xl 72 47 [some (.ref 8), some (w_i l1), some (w_i l2), some (w_i l3), some (w_i l4), some (w_i l5)] [] (w_pv v []) Ic Jc bc Q)))))))) : w_T xs xl 72 25 [some (.ref 8), some (w_i l1), some (w_i l2), some (w_i l3), some (w_i l4), some (w_i l5)] [] [w_i s0] I J b Q := by
  refine w_bipush (q := 27) rfl rfl rfl ?_
  obtain ⟨h1, k⟩ := k
  refine w_cne (t := 64) (q := 30) rfl rfl rfl h1 (by decide) (fun c2 => ?_) (fun c2 => ?_)
  · replace k := k.1 c2
    refine w_iinc (q := 67) (L' := [some (.ref 8), some (w_i l1), some (w_i l2), some (w_i l3), some (w_i l4), some (w_i (l5 + 1))]) (M' := []) rfl rfl rfl rfl rfl rfl ?_
    refine w_goto (t := 8) rfl rfl ?_
    exact k
  · replace k := k.2 c2
    refine w_iload (q := 32) rfl rfl rfl ?_
    refine w_iload (q := 34) rfl rfl rfl ?_
    refine w_isub (q := 35) rfl rfl ?_
    refine w_iload_n (q := 36) rfl rfl rfl ?_
    obtain ⟨h3, h4, k⟩ := k
    refine w_cne (t := 55) (q := 39) rfl rfl rfl h3 h4 (fun c5 => ?_) (fun c5 => ?_)
    · replace k := k.1 c5
      refine w_iinc (q := 58) (L' := [some (.ref 8), some (w_i l1), some (w_i l2), some (w_i (l3 + 1)), some (w_i l4), some (w_i l5)]) (M' := []) rfl rfl rfl rfl rfl rfl ?_
      refine w_iload (q := 60) rfl rfl rfl ?_
      refine w_iconst (q := 61) rfl rfl ?_
      refine w_iadd (q := 62) rfl rfl ?_
      refine w_istore (q := 64) (L' := [some (.ref 8), some (w_i l1), some (w_i l2), some (w_i (l3 + 1)), some (w_i (l5 + 1)), some (w_i l5)]) (M' := []) rfl rfl rfl rfl rfl ?_
      refine w_iinc (q := 67) (L' := [some (.ref 8), some (w_i l1), some (w_i l2), some (w_i (l3 + 1)), some (w_i (l5 + 1)), some (w_i (l5 + 1))]) (M' := []) rfl rfl rfl rfl rfl rfl ?_
      refine w_goto (t := 8) rfl rfl ?_
      exact k
    · replace k := k.2 c5
      refine w_aload_n (q := 40) rfl rfl rfl ?_
      refine w_iload (q := 42) rfl rfl rfl ?_
      refine w_iload_n (q := 43) rfl rfl rfl ?_
      refine w_iload_n (q := 44) rfl rfl rfl ?_
      refine w_callv (q := 47) rfl rfl rfl rfl rfl rfl ?_
      exact k
theorem b72_47 {xs : Nat → Int32} {xl : Nat} {I J : w_I} {b : Bool} {Q : Option Value → w_I → w_I → Bool → Prop} {l1 l2 l3 l5 s0 : Int} {u4 : Option Value} (k : ((-2147483648 ≤ s0 ∧ s0 < 2147483648) ∧ ((s0 = 0 → w_T xs xl 72 8 [some (.ref 8), some (w_i l1), some (w_i l2), some (w_i (l3 + 1)), some (w_i (l5 + 1)), some (w_i (l5 + 1))] [] [] I J b Q) ∧ (¬ s0 = 0 → Q (some (w_i (20 + l3))) I J b)))) : w_T xs xl 72 47 [some (.ref 8), some (w_i l1), some (w_i l2), some (w_i l3), u4, some (w_i l5)] [] [w_i s0] I J b Q := by
  obtain ⟨h1, k⟩ := k
  refine w_zeq (t := 55) (q := 50) rfl rfl rfl h1 (fun c2 => ?_) (fun c2 => ?_)
  · replace k := k.1 c2
    refine w_iinc (q := 58) (L' := [some (.ref 8), some (w_i l1), some (w_i l2), some (w_i (l3 + 1)), u4, some (w_i l5)]) (M' := []) rfl rfl rfl rfl rfl rfl ?_
    refine w_iload (q := 60) rfl rfl rfl ?_
    refine w_iconst (q := 61) rfl rfl ?_
    refine w_iadd (q := 62) rfl rfl ?_
    refine w_istore (q := 64) (L' := [some (.ref 8), some (w_i l1), some (w_i l2), some (w_i (l3 + 1)), some (w_i (l5 + 1)), some (w_i l5)]) (M' := []) rfl rfl rfl rfl rfl ?_
    refine w_iinc (q := 67) (L' := [some (.ref 8), some (w_i l1), some (w_i l2), some (w_i (l3 + 1)), some (w_i (l5 + 1)), some (w_i (l5 + 1))]) (M' := []) rfl rfl rfl rfl rfl rfl ?_
    refine w_goto (t := 8) rfl rfl ?_
    exact k
  · replace k := k.2 c2
    refine w_bipush (q := 52) rfl rfl rfl ?_
    refine w_iload_n (q := 53) rfl rfl rfl ?_
    refine w_iadd (q := 54) rfl rfl ?_
    exact w_iret rfl rfl k
theorem e73 {xs : Nat → Int32} {xl : Nat} {I J : w_I} {b : Bool} {Q : Option Value → w_I → w_I → Bool → Prop} {a1 a2 a3 : Int} (t : w_T xs xl 73 0 [some (.ref 8), some (w_i a1), some (w_i a2), some (w_i a3), none] [] [] I J b Q) : w_C xs xl 73 [.ref 8, w_i a1, w_i a2, w_i a3] I J b Q := w_en rfl t
theorem b73_0 {xs : Nat → Int32} {xl : Nat} {I J : w_I} {b : Bool} {Q : Option Value → w_I → w_I → Bool → Prop} {a1 a2 a3 : Int} (k : w_T xs xl 73 3 [some (.ref 8), some (w_i a1), some (w_i a2), some (w_i a3), some (w_i 0)] [] [] I J b Q) : w_T xs xl 73 0 [some (.ref 8), some (w_i a1), some (w_i a2), some (w_i a3), none] [] [] I J b Q := by
  refine w_iconst (q := 1) rfl rfl ?_
  refine w_istore (q := 3) (L' := [some (.ref 8), some (w_i a1), some (w_i a2), some (w_i a3), some (w_i 0)]) (M' := []) rfl rfl rfl rfl rfl ?_
  exact k
theorem b73_3 {xs : Nat → Int32} {xl : Nat} {I J : w_I} {b : Bool} {Q : Option Value → w_I → w_I → Bool → Prop} {l1 l2 l3 l4 : Int} (k : ((-2147483648 ≤ l4 ∧ l4 < 2147483648) ∧ (-2147483648 ≤ l3 ∧ l3 < 2147483648) ∧ ((l3 ≤ l4 → Q (some (w_i 1)) I J b) ∧ (¬ l3 ≤ l4 → w_C xs xl 290 [.ref x_ST, w_i (l1 + l4)] I J b (fun v Ic Jc bc => w_T xs xl 73 18 [some (.ref 8), some (w_i l1), some (w_i l2), some (w_i l3), some (w_i l4)] [] (w_pv v []) Ic Jc bc Q))))) : w_T xs xl 73 3 [some (.ref 8), some (w_i l1), some (w_i l2), some (w_i l3), some (w_i l4)] [] [] I J b Q := by
  refine w_iload (q := 5) rfl rfl rfl ?_
  refine w_iload_n (q := 6) rfl rfl rfl ?_
  obtain ⟨h1, h2, k⟩ := k
  refine w_cge (t := 37) (q := 9) rfl rfl rfl h1 h2 (fun c3 => ?_) (fun c3 => ?_)
  · replace k := k.1 c3
    refine w_iconst (q := 38) rfl rfl ?_
    refine w_iret rfl rfl k
  · replace k := k.2 c3
    refine w_ldcS (q := 11) rfl rfl ?_
    refine w_iload_n (q := 12) rfl rfl rfl ?_
    refine w_iload (q := 14) rfl rfl rfl ?_
    refine w_iadd (q := 15) rfl rfl ?_
    refine w_callS (q := 18) rfl rfl rfl rfl ?_
    exact k
theorem b73_18 {xs : Nat → Int32} {xl : Nat} {I J : w_I} {b : Bool} {Q : Option Value → w_I → w_I → Bool → Prop} {l1 l2 l3 l4 s0 : Int} (k : w_C xs xl 66 [.ref 8, w_i (l2 + l4)] I J b (fun v Ic Jc bc => w_T xs xl 73 26 [some (.ref 8), some (w_i l1), some (w_i l2), some (w_i l3), some (w_i l4)] [] (w_pv v [w_i s0]) Ic Jc bc Q)) : w_T xs xl 73 18 [some (.ref 8), some (w_i l1), some (w_i l2), some (w_i l3), some (w_i l4)] [] [w_i s0] I J b Q := by
  refine w_aload_n (q := 19) rfl rfl rfl ?_
  refine w_iload_n (q := 20) rfl rfl rfl ?_
  refine w_iload (q := 22) rfl rfl rfl ?_
  refine w_iadd (q := 23) rfl rfl ?_
  refine w_callv (q := 26) rfl rfl rfl rfl rfl rfl ?_
  exact k
theorem b73_26 {xs : Nat → Int32} {xl : Nat} {I J : w_I} {b : Bool} {Q : Option Value → w_I → w_I → Bool → Prop} {l1 l2 l3 l4 s0 s1 : Int} (k : ((-2147483648 ≤ s0 ∧ s0 < 2147483648) ∧ (-2147483648 ≤ s1 ∧ s1 < 2147483648) ∧ ((s0 = s1 → w_T xs xl 73 3 [some (.ref 8), some (w_i l1), some (w_i l2), some (w_i l3), some (w_i (l4 + 1))] [] [] I J b Q) ∧ (¬ s0 = s1 → Q (some (w_i 0)) I J b)))) : w_T xs xl 73 26 [some (.ref 8), some (w_i l1), some (w_i l2), some (w_i l3), some (w_i l4)] [] [w_i s1, w_i s0] I J b Q := by
  obtain ⟨h1, h2, k⟩ := k
  refine w_ceq (t := 31) (q := 29) rfl rfl rfl h1 h2 (fun c3 => ?_) (fun c3 => ?_)
  · replace k := k.1 c3
    refine w_iinc (q := 34) (L' := [some (.ref 8), some (w_i l1), some (w_i l2), some (w_i l3), some (w_i (l4 + 1))]) (M' := []) rfl rfl rfl rfl rfl rfl ?_
    refine w_goto (t := 3) rfl rfl ?_
    exact k
  · replace k := k.2 c3
    refine w_iconst (q := 30) rfl rfl ?_
    refine w_iret rfl rfl k
theorem e74 {xs : Nat → Int32} {xl : Nat} {I J : w_I} {b : Bool} {Q : Option Value → w_I → w_I → Bool → Prop} {a0 : Int} (t : w_T xs xl 74 0 [some (w_i a0)] [] [] I J b Q) : w_C xs xl 74 [w_i a0] I J b Q := w_en rfl t
theorem b74_0 {xs : Nat → Int32} {xl : Nat} {I J : w_I} {b : Bool} {Q : Option Value → w_I → w_I → Bool → Prop} {a0 : Int} (k : ((-2147483648 ≤ a0 ∧ a0 < 2147483648) ∧ ((¬ a0 = 61 → ((¬ a0 = 33 → Q (some (w_i 13)) I J b) ∧ (a0 = 33 → Q (some (w_i 11)) I J b))) ∧ (a0 = 61 → Q (some (w_i 10)) I J b)))) : w_T xs xl 74 0 [some (w_i a0)] [] [] I J b Q := by
  refine w_iload_n (q := 1) rfl rfl rfl ?_
  refine w_bipush (q := 3) rfl rfl rfl ?_
  obtain ⟨h1, k⟩ := k
  refine w_cne (t := 11) (q := 6) rfl rfl rfl h1 (by decide) (fun c2 => ?_) (fun c2 => ?_)
  · replace k := k.1 c2
    refine w_iload_n (q := 12) rfl rfl rfl ?_
    refine w_bipush (q := 14) rfl rfl rfl ?_
    refine w_cne (t := 22) (q := 17) rfl rfl rfl h1 (by decide) (fun c3 => ?_) (fun c3 => ?_)
    · replace k := k.1 c3
      refine w_bipush (q := 24) rfl rfl rfl ?_
      exact w_iret rfl rfl k
    · replace k := k.2 c3
      refine w_bipush (q := 19) rfl rfl rfl ?_
      refine w_goto (t := 24) rfl rfl ?_
      exact w_iret rfl rfl k
  · replace k := k.2 c2
    refine w_bipush (q := 8) rfl rfl rfl ?_
    refine w_goto (t := 24) rfl rfl ?_
    exact w_iret rfl rfl k
theorem e75 {xs : Nat → Int32} {xl : Nat} {I J : w_I} {b : Bool} {Q : Option Value → w_I → w_I → Bool → Prop} {a0 : Int} (t : w_T xs xl 75 0 [some (w_i a0)] [] [] I J b Q) : w_C xs xl 75 [w_i a0] I J b Q := w_en rfl t
theorem b75_0 {xs : Nat → Int32} {xl : Nat} {I J : w_I} {b : Bool} {Q : Option Value → w_I → w_I → Bool → Prop} {a0 : Int} (k : ((-2147483648 ≤ a0 ∧ a0 < 2147483648) ∧ ((a0 = 40 → Q (some (w_i 14)) I J b) ∧ (¬ a0 = 40 → ((a0 = 41 → Q (some (w_i 15)) I J b) ∧ (¬ a0 = 41 → ((a0 = 42 → Q (some (w_i 8)) I J b) ∧ (¬ a0 = 42 → ((a0 = 43 → Q (some (w_i 6)) I J b) ∧ (¬ a0 = 43 → ((a0 = 45 → Q (some (w_i 7)) I J b) ∧ (¬ a0 = 45 → ((a0 = 47 → Q (some (w_i 9)) I J b) ∧ (¬ a0 = 47 → ((a0 = 59 → Q (some (w_i 4)) I J b) ∧ (¬ a0 = 59 → ((a0 = 60 → Q (some (w_i 12)) I J b) ∧ (¬ a0 = 60 → ((a0 = 61 → Q (some (w_i 5)) I J b) ∧ (¬ a0 = 61 → Q (some (w_i 1)) I J b)))))))))))))))))))) : w_T xs xl 75 0 [some (w_i a0)] [] [] I J b Q := by
  refine w_iload_n (q := 1) rfl rfl rfl ?_
  obtain ⟨h1, k⟩ := k
  rcases Decidable.em (a0 = 40) with c2 | c2
  · replace k := k.1 c2
    refine w_tsw (t := 123) rfl h1 (by rw [c2]; rfl) ?_
    refine w_bipush (q := 125) rfl rfl rfl ?_
    exact w_iret rfl rfl k
  · replace k := k.2 c2
    rcases Decidable.em (a0 = 41) with c3 | c3
    · replace k := k.1 c3
      refine w_tsw (t := 126) rfl h1 (by rw [c3]; rfl) ?_
      refine w_bipush (q := 128) rfl rfl rfl ?_
      exact w_iret rfl rfl k
    · replace k := k.2 c3
      rcases Decidable.em (a0 = 42) with c4 | c4
      · replace k := k.1 c4
        refine w_tsw (t := 114) rfl h1 (by rw [c4]; rfl) ?_
        refine w_bipush (q := 116) rfl rfl rfl ?_
        exact w_iret rfl rfl k
      · replace k := k.2 c4
        rcases Decidable.em (a0 = 43) with c5 | c5
        · replace k := k.1 c5
          refine w_tsw (t := 108) rfl h1 (by rw [c5]; rfl) ?_
          refine w_bipush (q := 110) rfl rfl rfl ?_
          exact w_iret rfl rfl k
        · replace k := k.2 c5
          rcases Decidable.em (a0 = 45) with c6 | c6
          · replace k := k.1 c6
            refine w_tsw (t := 111) rfl h1 (by rw [c6]; rfl) ?_
            refine w_bipush (q := 113) rfl rfl rfl ?_
            exact w_iret rfl rfl k
          · replace k := k.2 c6
            rcases Decidable.em (a0 = 47) with c7 | c7
            · replace k := k.1 c7
              refine w_tsw (t := 117) rfl h1 (by rw [c7]; rfl) ?_
              refine w_bipush (q := 119) rfl rfl rfl ?_
              exact w_iret rfl rfl k
            · replace k := k.2 c7
              rcases Decidable.em (a0 = 59) with c8 | c8
              · replace k := k.1 c8
                refine w_tsw (t := 104) rfl h1 (by rw [c8]; rfl) ?_
                refine w_iconst (q := 105) rfl rfl ?_
                exact w_iret rfl rfl k
              · replace k := k.2 c8
                rcases Decidable.em (a0 = 60) with c9 | c9
                · replace k := k.1 c9
                  refine w_tsw (t := 120) rfl h1 (by rw [c9]; rfl) ?_
                  refine w_bipush (q := 122) rfl rfl rfl ?_
                  exact w_iret rfl rfl k
                · replace k := k.2 c9
                  rcases Decidable.em (a0 = 61) with c10 | c10
                  · replace k := k.1 c10
                    refine w_tsw (t := 106) rfl h1 (by rw [c10]; rfl) ?_
                    refine w_iconst (q := 107) rfl rfl ?_
                    exact w_iret rfl rfl k
                  · replace k := k.2 c10
                    skip
                    refine w_tsw (t := 129) rfl h1 ?_ ?_
                    · rcases (show a0 < 40 ∨ 61 < a0 ∨ a0 = 44 ∨ a0 = 46 ∨ a0 = 48 ∨ a0 = 49 ∨ a0 = 50 ∨ a0 = 51 ∨ a0 = 52 ∨ a0 = 53 ∨ a0 = 54 ∨ a0 = 55 ∨ a0 = 56 ∨ a0 = 57 ∨ a0 = 58 by omega) with hd | hd | hd | hd | hd | hd | hd | hd | hd | hd | hd | hd | hd | hd | hd
                      · rw [if_pos (Or.inl hd)]; rfl
                      · rw [if_pos (Or.inr hd)]; rfl
                      · rw [hd]; rfl
                      · rw [hd]; rfl
                      · rw [hd]; rfl
                      · rw [hd]; rfl
                      · rw [hd]; rfl
                      · rw [hd]; rfl
                      · rw [hd]; rfl
                      · rw [hd]; rfl
                      · rw [hd]; rfl
                      · rw [hd]; rfl
                      · rw [hd]; rfl
                      · rw [hd]; rfl
                      · rw [hd]; rfl
                    refine w_iconst (q := 130) rfl rfl ?_
                    exact w_iret rfl rfl k
theorem e76 {xs : Nat → Int32} {xl : Nat} {I J : w_I} {b : Bool} {Q : Option Value → w_I → w_I → Bool → Prop} {a1 : Int} (t : w_T xs xl 76 0 [some (.ref 8), some (w_i a1)] [] [] I J b Q) : w_C xs xl 76 [.ref 8, w_i a1] I J b Q := w_en rfl t
theorem b76_0 {xs : Nat → Int32} {xl : Nat} {I J : w_I} {b : Bool} {Q : Option Value → w_I → w_I → Bool → Prop} {a1 : Int} (k : ((0 ≤ I 8 9 ∧ I 8 9 < 402) ∧ Q (some (w_i 0)) (w_U (w_U I 8 10 a1) 8 11 (I 17 (I 8 9))) J b)) : w_T xs xl 76 0 [some (.ref 8), some (w_i a1)] [] [] I J b Q := by
  refine w_aload_n (q := 1) rfl rfl rfl ?_
  refine w_iload_n (q := 2) rfl rfl rfl ?_
  refine w_pfi (q := 5) (k' := 10) rfl rfl rfl rfl ?_
  refine w_aload_n (q := 6) rfl rfl rfl ?_
  refine w_aload_n (q := 7) rfl rfl rfl ?_
  refine w_gfr (q := 10) rfl rfl rfl rfl (j := 17) rfl ?_
  refine w_aload_n (q := 11) rfl rfl rfl ?_
  refine w_gfi (q := 14) (k' := 9) (v := I 8 9) rfl rfl rfl rfl rfl rfl rfl ?_
  obtain ⟨h1, k⟩ := k
  refine w_iald (q := 15) (n := 402) (v := I 17 (I 8 9)) rfl rfl rfl rfl rfl rfl h1 ?_
  refine w_pfi (q := 18) (k' := 11) rfl rfl rfl rfl ?_
  refine w_iconst (q := 19) rfl rfl ?_
  refine w_iret rfl rfl k
end
