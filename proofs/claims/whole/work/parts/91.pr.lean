section
/-! part, the reference: sets told another way; the table without costs; the tops laid -/
theorem a_g_c2 {T : Int} {lv lv' : Int → Int} {c c' : Int → Bool} : ∀ (k : Nat) (q l : Int), (∀ j, q ≤ j → j < q + k → c j = c' j ∧ lv j = lv' j) → a_g T lv c k q l = a_g T lv' c' k q l
  | 0, q, l, _ => rfl
  | k + 1, q, l, h => by
    obtain ⟨h1, h2⟩ := h q (by omega) (by omega)
    rw [a_g_s, a_g_s, h1, h2]
    rw [a_g_c2 k (q + 1) (l + 1) (fun j a b => h j (by omega) (by omega)), a_g_c2 k (q + 1) (lv' q + 1) (fun j a b => h j (by omega) (by omega)), a_g_c2 k (q + 1) l (fun j a b => h j (by omega) (by omega))]
theorem a_V_c {T1 T2 : Int} {v1 v2 ix v1' v2' ix' : Int → Int} {M : Nat} (h : ∀ q : Int, 0 ≤ q → q < M → v1 q = v1' q ∧ v2 q = v2' q ∧ ix q = ix' q) (S : Int) : a_V T1 T2 v1 v2 ix M S = a_V T1 T2 v1' v2' ix' M S := by
  unfold a_V a_v
  congr 1
  · refine a_g_c2 M 0 0 (fun j a b => ?_)
    obtain ⟨x, y, z⟩ := h j a (by omega)
    try dsimp only
    rw [z]
    exact ⟨rfl, x⟩
  · refine a_g_c2 M 0 0 (fun j a b => ?_)
    obtain ⟨x, y, z⟩ := h j a (by omega)
    try dsimp only
    rw [z]
    exact ⟨rfl, y⟩
theorem a_res_c {T1 T2 : Int} {v1 v2 ix v1' v2' ix' : Int → Int} {M : Nat} {best sg : Int} (h : ∀ q : Int, 0 ≤ q → q < M → v1 q = v1' q ∧ v2 q = v2' q ∧ ix q = ix' q) (r : a_res T1 T2 v1 v2 ix M best sg) : a_res T1 T2 v1' v2' ix' M best sg := by
  have e : a_V T1 T2 v1 v2 ix M = a_V T1 T2 v1' v2' ix' M := funext (a_V_c h)
  unfold a_res at r ⊢
  rw [← e]
  exact r
theorem a_mk_not {d : Int → Bool} : ∀ M : Nat, a_mk d M + a_mk (fun j => !d j) M = pw2 M - 1
  | 0 => rfl
  | M + 1 => by
    have ih := a_mk_not (d := d) M
    rw [a_mk_s, a_mk_s, show ((M + 1 : Nat) : Int) = (M : Int) + 1 by omega, pw2_s (by omega)]
    try dsimp only
    cases h : d M
    · rw [if_neg (show ¬ (false = true) by decide), if_pos (show (!false) = true from rfl)]; omega
    · rw [if_pos (show true = true from rfl), if_neg (show ¬ ((!true) = true) by decide)]; omega
theorem a_mk_bt {S : Int} {M : Nat} (hS : 0 ≤ S ∧ S < pw2 M) : a_mk (fun j => decide (bt S j = 1)) M = S := by
  have e := bt_sum hS.1 M
  rw [Int.emod_eq_of_lt hS.1 hS.2] at e
  unfold a_mk
  rw [← e]
  refine m_sum_c _ (fun i hi => ?_)
  try dsimp only
  rw [e]
  by_cases x : bt S i = 1
  · rw [if_pos x, if_pos (decide_eq_true x)]
  · rw [if_neg x, if_neg (fun y => x (of_decide_eq_true y))]
theorem bt_not {S : Int} {M : Nat} (hS : 0 ≤ S ∧ S < pw2 M) {j : Nat} (hj : j < M) : bt (pw2 M - 1 - S) j = 1 - bt S j := by
  have n := a_mk_not (d := fun j => decide (bt S j = 1)) M
  rw [a_mk_bt hS] at n
  have b := bt_mk (d := fun j => !(decide (bt S j = 1))) M j hj
  rw [show a_mk (fun j => !(decide (bt S j = 1))) M = pw2 M - 1 - S by
    have n' : S + a_mk (fun j => !(decide (bt S j = 1))) M = pw2 M - 1 := n
    omega] at b
  rw [b]
  rcases bt_b S j with x | x <;> rw [x] <;> rfl
theorem bt_hi {S : Int} {M : Nat} (hS : 0 ≤ S ∧ S < pw2 M) {j : Nat} (hj : M ≤ j) : bt S j = 0 := by
  have e := pw2_a M (j - M) (by omega)
  rw [show (M : Int) + ((j - M : Nat) : Int) = j by omega] at e
  have p := pw2_pos ((j - M : Nat) : Int)
  have p2 := pw2_pos M
  have : pw2 M * 1 ≤ pw2 M * pw2 ((j - M : Nat) : Int) := Int.mul_le_mul_of_nonneg_left p (by omega)
  unfold bt
  rw [Int.ediv_eq_zero_of_lt hS.1 (by omega)]
  rfl
theorem a_bits_12 {S : Int} {M : Nat} (hS : 0 ≤ S ∧ S < pw2 M) : ∀ d : Nat, a_bits S (M + d) = a_bits S M
  | 0 => rfl
  | d + 1 => by
    have ih := a_bits_12 hS d
    unfold a_bits at ih ⊢
    rw [show M + (d + 1) = (M + d) + 1 by omega, m_sum_s, ih, bt_hi hS (by omega)]
    omega
section
variable {xs : Nat → Int32} {xl : Nat} {I J : w_I} {b : Bool} {Q : Option Value → w_I → w_I → Bool → Prop}
variable {s : Int → Int}
theorem s242z {F : m_F} {i h : Int} (hi : 0 ≤ i ∧ i < 32) (hh : 0 ≤ h ∧ h < 100) (h8 : -1 ≤ I 128 i ∧ I 128 i < 100)
    (k : ∀ I', w_fr pC I I' → Q (some (w_i (m_pay F s 0 (I 128) (I 129) (I 130) (I 131) i h))) I' J b) : w_C xs xl 242 [.ref 104, w_i i, w_i h, w_i 0] I J b Q := by
  unfold m_pay at k
  have k0 := k I w_frr
  refine e242 ?_
  refine b242_0 ?_
  try simp only [w_Ug, reduceIte, Nat.reduceEqDiff, Int.reduceEq, eq_self, if_true]
  repeat' (first | apply And.intro | intro)
  all_goals (try first | omega | contradiction | exact Or.inl trivial | exact Or.inr trivial)
  · rename_i c1 c2 _
    rw [if_neg c1, if_neg (by omega), if_pos rfl] at k0; exact k0
  · rename_i c1 c2 _
    rw [if_neg c1, if_pos (by omega), if_pos rfl] at k0; exact k0
  · rename_i c1
    rw [if_pos c1] at k0; exact k0
theorem s243z {F : m_F} {n H : Int} (hs : I 110 = s) (hF : m_at I F) (w : m_w0 s) (cd : m_cd F s) (hn : I 104 36 = n) (hb : 0 ≤ n ∧ n ≤ 25 ∧ 0 ≤ H ∧ H ≤ 24) (hq : ∀ i, 0 ≤ i → i < n → -1 ≤ I 128 i ∧ I 128 i < 100)
    (k : ∀ I', w_fr pL I I' → l_tab I' (m_pay F s 0 (I 128) (I 129) (I 130) (I 131)) n H 0 → Q (some (w_i (l_D (m_pay F s 0 (I 128) (I 129) (I 130) (I 131)) H n.toNat 0 H.toNat))) I' J b) : w_C xs xl 243 [.ref 104, w_i H, w_i 0] I J b Q := by
  have pb : ∀ i h, 0 ≤ m_pay F s 0 (I 128) (I 129) (I 130) (I 131) i h ∧ m_pay F s 0 (I 128) (I 129) (I 130) (I 131) i h ≤ 1009999 := fun i h => m_pay_b
  have pay_s : ∀ (I1 : w_I), w_fr pL I I1 → m_pay F s 0 (I1 128) (I1 129) (I1 130) (I1 131) = m_pay F s 0 (I 128) (I 129) (I 130) (I 131) := fun I1 fr => by
    rw [w_frA (a := 128) fr (fun _ => rfl), w_frA (a := 129) fr (fun _ => rfl), w_frA (a := 130) fr (fun _ => rfl), w_frA (a := 131) fr (fun _ => rfl)]
  generalize m_pay F s 0 (I 128) (I 129) (I 130) (I 131) = pay at k pb pay_s
  have lb : ∀ (i : Int) (k : Nat) (j : Nat), (j : Int) ≤ H → (k : Int) ≤ 25 → 0 ≤ l_D pay H k i j ∧ l_D pay H k i j ≤ 100000000 := by
    intro i k j hj hk
    have := l_D_b (pay := pay) (H := H) k i (fun i' h _ _ _ _ => pb i' h) j hj
    omega
  have outer : ∀ (m : Nat) (l3 : Int) (u4 u5 u6 u7 : Option Value) (I1 : w_I), l3 + 1 = m → l3 < n → w_fr pL I I1 → l_tab I1 pay n H (l3 + 1) → w_T xs xl 243 40 [some (.ref 104), some (w_i H), some (w_i 0), some (w_i l3), u4, u5, u6, u7] [] [] I1 J b Q := by
    intro m
    induction m with
    | zero =>
      intro l3 u4 u5 u6 u7 I1 a0 a1 a2 a3
      have e : l3 + 1 = 0 := by omega
      rw [e] at a3
      have z := a3 0 0 (by omega) (by omega) (by omega) (by omega)
      have kk := k I1 a2 a3
      rw [show n - 0 = n by omega, show H - 0 = H by omega, show 25 * (0 : Int) + 0 = 0 by omega] at z
      rw [← z] at kk
      refine b243_40 ?_
      try simp only [w_Ug, reduceIte, Nat.reduceEqDiff, Int.reduceEq, eq_self, if_true]
      repeat' (first | apply And.intro | intro)
      all_goals (try first | omega | contradiction | exact Or.inl trivial | exact Or.inr trivial)
    | succ m ih =>
      intro l3 u4 u5 u6 u7 I1 a0 a1 a2 a3
      have inner : ∀ (j : Nat) (l4 : Int) (u5 u6 u7 : Option Value) (I2 : w_I), l4 + 1 = j → l4 < H → w_fr pL I I2 → l_tab I2 pay n H (l3 + 1) → (∀ h, l4 < h → h ≤ H → I2 132 (25 * l3 + h) = l_D pay H (n - l3).toNat l3 (H - h).toNat) →
          w_T xs xl 243 63 [some (.ref 104), some (w_i H), some (w_i 0), some (w_i l3), some (w_i l4), u5, u6, u7] [] [] I2 J b Q := by
        intro j
        induction j with
        | zero =>
          intro l4 u5 u6 u7 I2 b0 b1 b2 b3 b4
          refine b243_63 ?_
          try simp only [w_Ug, reduceIte, Nat.reduceEqDiff, Int.reduceEq, eq_self, if_true]
          repeat' (first | apply And.intro | intro)
          all_goals (try first | omega | contradiction | exact Or.inl trivial | exact Or.inr trivial)
          refine ih (l3 + -1) _ _ _ _ I2 (by omega) (by omega) b2 ?_
          rw [show l3 + -1 + 1 = l3 by omega]
          intro i' h c1 c2 c3 c4
          by_cases e : i' = l3
          · subst e; exact b4 h (by omega) c4
          · exact b3 i' h (by omega) c2 c3 c4
        | succ j ihj =>
          intro l4 u5 u6 u7 I2 b0 b1 b2 b3 b4
          have next := b3 (l3 + 1) (l4 + 1) (by omega) (by omega) (by omega) (by omega)
          rw [show 25 * (l3 + 1) + (l4 + 1) = 25 * l3 + 25 + l4 + 1 by omega] at next
          have on := b4 (l4 + 1) (by omega) (by omega)
          rw [show 25 * l3 + (l4 + 1) = 25 * l3 + l4 + 1 by omega] at on
          have nb := lb (l3 + 1) (n - (l3 + 1)).toNat (H - (l4 + 1)).toNat (by omega) (by omega)
          have ob := lb l3 (n - l3).toNat (H - (l4 + 1)).toNat (by omega) (by omega)
          have pp := pb l3 l4
          have def' : l_D pay H (n - l3).toNat l3 (H - l4).toNat = if (if 100000000 ≤ l_D pay H (n - (l3 + 1)).toNat (l3 + 1) (H - (l4 + 1)).toNat then 100000000 else l_D pay H (n - (l3 + 1)).toNat (l3 + 1) (H - (l4 + 1)).toNat + pay l3 l4) < l_D pay H (n - l3).toNat l3 (H - (l4 + 1)).toNat then (if 100000000 ≤ l_D pay H (n - (l3 + 1)).toNat (l3 + 1) (H - (l4 + 1)).toNat then 100000000 else l_D pay H (n - (l3 + 1)).toNat (l3 + 1) (H - (l4 + 1)).toNat + pay l3 l4) else l_D pay H (n - l3).toNat l3 (H - (l4 + 1)).toNat := by
            rw [show (n - l3).toNat = (n - (l3 + 1)).toNat + 1 by omega, l_D_s, show (H - l4).toNat = (H - (l4 + 1)).toNat + 1 by omega, l_dr_s, show H - ((((H - (l4 + 1)).toNat : Nat) : Int) + 1) = l4 by omega]
          generalize l_D pay H (n - (l3 + 1)).toNat (l3 + 1) (H - (l4 + 1)).toNat = nx at next nb def'
          generalize l_D pay H (n - l3).toNat l3 (H - (l4 + 1)).toNat = ox at on ob def'
          -- what is put
          have fin : ∀ (v : Int) (u5 u6 u7 : Option Value) (I3 : w_I), w_fr pL I I3 → I3 132 = I2 132 → v = l_D pay H (n - l3).toNat l3 (H - l4).toNat → w_T xs xl 243 63 [some (.ref 104), some (w_i H), some (w_i 0), some (w_i l3), some (w_i (l4 + -1)), u5, u6, u7] [] [] (w_U I3 132 (25 * l3 + l4) v) J b Q := by
            intro v u5 u6 u7 I3 fr3 e3 ev
            refine ihj (l4 + -1) u5 u6 u7 _ (by omega) (by omega) (w_frU fr3 rfl) (fun i' h c1 c2 c3 c4 => ?_) (fun h c1 c2 => ?_)
            · rw [w_Ug, if_pos rfl, if_neg (by omega), e3]
              exact b3 i' h c1 c2 c3 c4
            · rw [w_Ug, if_pos rfl]
              by_cases e : h = l4
              · subst e; rw [if_pos rfl]; exact ev
              · rw [if_neg (by omega), e3]; exact b4 h (by omega) c2
          by_cases c1 : 100000000 ≤ nx
          · rw [if_pos c1] at def'
            by_cases c2 : (100000000 : Int) < ox
            · omega
            · rw [if_neg c2] at def'
              refine b243_63 ?_
              try simp only [w_Ug, reduceIte, Nat.reduceEqDiff, Int.reduceEq, eq_self, next, on]
              repeat' (first | apply And.intro | intro)
              all_goals (try first | omega | contradiction | exact Or.inl trivial | exact Or.inr trivial)
              exact fin _ _ _ _ _ b2 rfl def'.symm
          · rw [if_neg c1] at def'
            have hs2 : I2 110 = s := (w_frA b2 (fun _ => rfl)).trans hs
            have hF2 := m_at_fr hF b2 (fun _ => rfl) (fun _ => rfl) (fun _ => rfl) (fun _ => rfl) (fun _ => rfl) (fun _ => rfl) (fun _ => rfl) (fun _ => rfl)
            have q2 := hq l3 (by omega) (by omega)
            rw [← w_frA (a := 128) b2 (fun _ => rfl)] at q2
            refine b243_63 ?_
            try simp only [w_Ug, reduceIte, Nat.reduceEqDiff, Int.reduceEq, eq_self, next, on]
            repeat' (first | apply And.intro | intro)
            all_goals (try first | omega | contradiction | exact Or.inl trivial | exact Or.inr trivial)
            refine s242z (F := F) (s := s) (by omega) (by omega) q2 (fun I3 fr3 => ?_)
            rw [pay_s I2 b2]
            have on3 : I3 132 (25 * l3 + l4 + 1) = ox := by rw [w_frA (a := 132) fr3 (fun _ => rfl)]; exact on
            have fr := w_frt b2 (pC_L fr3)
            have e132 : I3 132 = I2 132 := w_frA fr3 (fun _ => rfl)
            refine b243_111 ?_
            try simp only [w_Ug, reduceIte, Nat.reduceEqDiff, Int.reduceEq, eq_self, on3]
            repeat' (first | apply And.intro | intro)
            all_goals (try first | omega | contradiction | exact Or.inl trivial | exact Or.inr trivial)
            · rename_i c2
              rw [if_neg (by omega)] at def'
              exact fin _ _ _ _ _ fr e132 def'.symm
            · rename_i c2
              rw [if_pos (by omega)] at def'
              exact fin _ _ _ _ _ fr e132 def'.symm
      refine b243_40 ?_
      try simp only [w_Ug, reduceIte, Nat.reduceEqDiff, Int.reduceEq, eq_self, if_true]
      repeat' (first | apply And.intro | intro)
      all_goals (try first | omega | contradiction | exact Or.inl trivial | exact Or.inr trivial)
      refine inner H.toNat (H - 1) _ _ _ _ (by omega) (by omega) (w_frU a2 rfl) (fun i' h c1 c2 c3 c4 => ?_) (fun h c1 c2 => ?_)
      · rw [w_Ug, if_pos rfl, if_neg (by omega)]
        exact a3 i' h c1 c2 c3 c4
      · have e : h = H := by omega
        subst e
        rw [w_Ug, if_pos rfl, if_pos rfl, show (n - l3).toNat = (n - (l3 + 1)).toNat + 1 by omega, l_D_s, show (h - h).toNat = 0 by omega]
        rfl
  have init : ∀ (m : Nat) (l3 : Int) (u4 u5 u6 u7 : Option Value) (I1 : w_I), l3 + m = H + 1 → 0 ≤ l3 → w_fr pL I I1 → (∀ h, 0 ≤ h → h < l3 → I1 132 (25 * n + h) = 0) → w_T xs xl 243 7 [some (.ref 104), some (w_i H), some (w_i 0), some (w_i l3), u4, u5, u6, u7] [] [] I1 J b Q := by
    intro m
    induction m with
    | zero =>
      intro l3 u4 u5 u6 u7 I1 a0 a1 a2 a3
      have n1 : I1 104 36 = n := by rw [a2 104 36 rfl]; exact hn
      refine b243_7 ?_
      try simp only [w_Ug, reduceIte, Nat.reduceEqDiff, Int.reduceEq, eq_self, n1]
      repeat' (first | apply And.intro | intro)
      all_goals (try first | omega | contradiction | exact Or.inl trivial | exact Or.inr trivial)
      refine outer n.toNat (n - 1) _ _ _ _ I1 (by omega) (by omega) a2 (fun i' h c1 c2 c3 c4 => ?_)
      have e : i' = n := by omega
      subst e
      rw [a3 h c3 (by omega), show (i' - i').toNat = 0 by omega]
      rfl
    | succ m ih =>
      intro l3 u4 u5 u6 u7 I1 a0 a1 a2 a3
      have n1 : I1 104 36 = n := by rw [a2 104 36 rfl]; exact hn
      refine b243_7 ?_
      try simp only [w_Ug, reduceIte, Nat.reduceEqDiff, Int.reduceEq, eq_self, n1]
      repeat' (first | apply And.intro | intro)
      all_goals (try first | omega | contradiction | exact Or.inl trivial | exact Or.inr trivial)
      refine ih (l3 + 1) _ _ _ _ _ (by omega) (by omega) (w_frU a2 rfl) (fun h c1 c2 => ?_)
      rw [w_Ug, if_pos rfl]
      by_cases e : h = l3
      · rw [if_pos (by omega)]
      · rw [if_neg (by omega)]; exact a3 h c1 (by omega)
  refine e243 (b243_0 ?_)
  exact init (H.toNat + 1) 0 _ _ _ _ _ (by omega) (by omega) (w_frU w_frr rfl) (fun h c1 c2 => by omega)

/-- the tops as the reference has laid them -/
def a_lt (I : w_I) (s : Int → Int) : Prop := I 104 46 = a_ri s (s 0) ∧ (∀ h, a_S s h → I 134 (a_ri s h) = h) ∧ r_ok (a_ri s (s 0)) (fun q => I 134 (I 136 q)) (a_S s) (a_rk s) ∧ ∀ q, 0 ≤ q → q < a_ri s (s 0) → I 136 q = a_ri s (I 134 (I 136 q))
def p256 (a : Nat) (k : Int) : Bool := a == 134 || a == 135 || a == 136 || (a == 104 && k == 46) || p216 a k
theorem p256_J {I I' : w_I} (h : w_fr p256 I I') : w_fr pJ I I' := w_frm h (fun a k e => by
  simp only [pJ, p256, p216, Bool.or_eq_false_iff, Bool.and_eq_false_iff, beq_eq_false_iff_ne, ne_eq, ble_f, decide_eq_false_iff_not] at e ⊢
  omega)
theorem p216_256 {I I' : w_I} (h : w_fr p216 I I') : w_fr p256 I I' := w_frm h (fun a k e => by
  simp only [p256, Bool.or_eq_false_iff] at e
  exact e.2)
theorem s256 (hs : I 110 = s) (wf : m_wf s) (k : ∀ I', w_fr p256 I I' → a_lt I' s → Q none I' J b) : w_C xs xl 256 [.ref 104] I J b Q := by
  have w := wf.1
  have w0 := w.1
  have ri0 := a_ri_b (s := s) (h := s 0) (by omega)
  have kb : ∀ x, 0 ≤ m_kf s (s 1) x ∧ m_kf s (s 1) x ≤ 199 := fun x => m_kf_b w (st := s 1) (g := x) (by omega)
  -- the second half
  have sort : ∀ (m : Nat) (i : Int) (u2 : Option Value) (I1 : w_I), i + m = a_ri s (s 0) → 0 ≤ i → w_fr p256 I I1 → I1 104 46 = a_ri s (s 0) → (∀ h, a_S s h → I1 134 (a_ri s h) = h ∧ I1 135 (a_ri s h) = m_kf s (s 1) (m_dw s h)) →
      r_ok i (fun q => I1 134 (I1 136 q)) (fun h => a_S s h ∧ a_ri s h < i) (a_rk s) → (∀ q, 0 ≤ q → q < i → I1 136 q = a_ri s (I1 134 (I1 136 q))) → w_T xs xl 256 84 [some (.ref 104), some (w_i i), u2] [] [] I1 J b Q := by
    intro m
    induction m with
    | zero =>
      intro i u2 I1 a0 a1 a2 a3 a4 a5 a6
      have e : i = a_ri s (s 0) := by omega
      subst e
      have kk := k I1 a2 ⟨a3, fun h hh => (a4 h hh).1, r_ext a5 (fun _ _ _ => rfl) (fun h => ⟨fun z => z.1, fun z => ⟨z, a_ri_lt z.1.1 z.1.2 z.2⟩⟩), a6⟩
      refine b256_84 ?_
      try simp only [w_Ug, reduceIte, Nat.reduceEqDiff, Int.reduceEq, eq_self, a3]
      repeat' (first | apply And.intro | intro)
      all_goals (try first | omega | contradiction | exact Or.inl trivial | exact Or.inr trivial)
    | succ m ih =>
      intro i u2 I1 a0 a1 a2 a3 a4 a5 a6
      obtain ⟨x, x0, x1, x2, x3⟩ := a_ri_ex (s := s) (j := i) a1 (s 0).toNat (by rw [show (((s 0).toNat : Nat) : Int) = s 0 by omega]; omega)
      have xS : a_S s x := ⟨⟨x0, by omega⟩, x2⟩
      have xi := a4 x xS
      rw [x3] at xi
      have el : ∀ q, 0 ≤ q → q < i → (a_S s (I1 134 (I1 136 q)) ∧ I1 134 (I1 136 q) < x) ∧ (0 ≤ I1 136 q ∧ I1 136 q < i) ∧ I1 135 (I1 136 q) = m_kf s (s 1) (m_dw s (I1 134 (I1 136 q))) := by
        intro q q0 q1
        have z := a5.2.1 q q0 q1
        have e := a6 q q0 q1
        try dsimp only at z
        have zb := a_ri_b (s := s) (h := I1 134 (I1 136 q)) z.1.1.1
        refine ⟨⟨z.1, ?_⟩, ⟨by omega, by omega⟩, ?_⟩
        · apply Decidable.byContradiction
          intro hc
          have := a_ri_up (s := s) (a := x) (c := I1 134 (I1 136 q)) (by omega)
          have := z.2
          omega
        · have := (a4 _ z.1).2
          rw [← e] at this
          exact this
      refine b256_84 ?_
      try simp only [w_Ug, reduceIte, Nat.reduceEqDiff, Int.reduceEq, eq_self, a3]
      repeat' (first | apply And.intro | intro)
      all_goals (try first | omega | contradiction | exact Or.inl trivial | exact Or.inr trivial)
      have loop : ∀ (j : Nat) (p : Int) (I2 : w_I), p = j → p ≤ i → (∀ a, a ≠ 136 → I2 a = I1 a) → (∀ q, 0 ≤ q → q < p → I2 136 q = I1 136 q) → (∀ q, p < q → q ≤ i → I2 136 q = I1 136 (q - 1)) → (∀ q, p ≤ q → q < i → m_kf s (s 1) (m_dw s x) < m_kf s (s 1) (m_dw s (I1 134 (I1 136 q)))) →
          w_T xs xl 256 94 [some (.ref 104), some (w_i i), some (w_i p)] [] [] I2 J b Q := by
        have fin : ∀ (p : Int) (I2 : w_I), 0 ≤ p → p ≤ i → (∀ a, a ≠ 136 → I2 a = I1 a) → (∀ q, 0 ≤ q → q < p → I2 136 q = I1 136 q) → (∀ q, p < q → q ≤ i → I2 136 q = I1 136 (q - 1)) → (∀ q, p ≤ q → q < i → m_kf s (s 1) (m_dw s x) < m_kf s (s 1) (m_dw s (I1 134 (I1 136 q)))) → (∀ q, 0 ≤ q → q < p → m_kf s (s 1) (m_dw s (I1 134 (I1 136 q))) ≤ m_kf s (s 1) (m_dw s x)) →
            w_T xs xl 256 84 [some (.ref 104), some (w_i (i + 1)), some (w_i p)] [] [] (w_U I2 136 p i) J b Q := by
          intro p I2 p0 b1 b2 b3 b4 b5 b6
          have e134 : (w_U I2 136 p i) 134 = I1 134 := by rw [w_Ua (by decide)]; exact b2 134 (by decide)
          have val : ∀ q, 0 ≤ q → q < i + 1 → I1 134 (w_U I2 136 p i 136 q) = r_insf p x (fun q => I1 134 (I1 136 q)) q ∧ w_U I2 136 p i 136 q = r_insf p i (fun q => I1 136 q) q := by
            intro q q0 q1
            unfold r_insf
            rw [w_Ug, if_pos rfl]
            by_cases c1 : q < p
            · rw [if_neg (by omega), if_pos c1, if_pos c1, b3 q q0 c1]; exact ⟨rfl, rfl⟩
            · by_cases c2 : q = p
              · rw [if_pos c2, if_neg c1, if_pos c2, if_neg c1, if_pos c2]; exact ⟨xi.1, rfl⟩
              · rw [if_neg c2, if_neg c1, if_neg c2, if_neg c1, if_neg c2, b4 q (by omega) (by omega)]; exact ⟨rfl, rfl⟩
          refine ih (i + 1) _ _ (by omega) (by omega) (w_frt a2 (fun a k' e => ?_)) ?_ (fun h hh => ?_) ?_ (fun q q0 q1 => ?_)
          · have : a ≠ 136 := fun z => by subst z; cases e
            rw [w_Ua this, b2 a this]
          · rw [w_Ua (by decide), b2 104 (by decide)]; exact a3
          · rw [e134, w_Ua (by decide), b2 135 (by decide)]; exact a4 h hh
          · rw [e134]
            refine r_ext (r_ins a5 (p := p) (x := x) ⟨p0, b1⟩ (fun q q0 q1 => ?_) (fun q q0 q1 => ?_)) (fun q q0 q1 => (val q q0 q1).1) (fun h => ?_)
            · have := b6 q q0 q1
              have := (el q q0 (by omega)).1
              unfold a_rk
              omega
            · have := b5 q q0 q1
              have z := (el q (by omega) q1).1
              have := z.1.1
              unfold a_rk
              omega
            · constructor
              · intro z
                rcases z with z | z
                · exact ⟨z.1, by have := z.2; omega⟩
                · rw [z]; exact ⟨xS, by omega⟩
              · intro z
                by_cases c : a_ri s h < i
                · exact Or.inl ⟨z.1, c⟩
                · right
                  have z2 := z.2
                  apply Decidable.byContradiction
                  intro hne
                  by_cases c2 : h < x
                  · have := a_ri_lt z.1.1.1 c2 z.1.2
                    omega
                  · have := a_ri_lt x0 (show x < h by omega) x2
                    omega
          · obtain ⟨v1, v2⟩ := val q q0 q1
            rw [e134, v1, v2]
            unfold r_insf
            by_cases c1 : q < p
            · rw [if_pos c1, if_pos c1]; exact a6 q q0 (by omega)
            · by_cases c2 : q = p
              · rw [if_neg c1, if_pos c2, if_neg c1, if_pos c2, x3]
              · rw [if_neg c1, if_neg c2, if_neg c1, if_neg c2]; exact a6 (q - 1) (by omega) (by omega)
        intro j
        induction j with
        | zero =>
          intro p I2 b0 b1 b2 b3 b4 b5
          have ff := fin p I2 (by omega) b1 b2 b3 b4 b5 (fun q q0 q1 => by omega)
          refine b256_94 ?_
          try simp only [w_Ug, reduceIte, Nat.reduceEqDiff, Int.reduceEq, eq_self, if_true]
          repeat' (first | apply And.intro | intro)
          all_goals (try first | omega | contradiction | exact Or.inl trivial | exact Or.inr trivial)
        | succ j ihj =>
          intro p I2 b0 b1 b2 b3 b4 b5
          have e1 : I2 136 (p - 1) = I1 136 (p - 1) := b3 (p - 1) (by omega) (by omega)
          have e2 : I2 135 = I1 135 := b2 135 (by decide)
          obtain ⟨z1, z2, z3⟩ := el (p - 1) (by omega) (by omega)
          have kb1 := kb (m_dw s x)
          have kb2 := kb (m_dw s (I1 134 (I1 136 (p - 1))))
          have xi2 := xi.2
          refine b256_94 ?_
          try simp only [w_Ug, reduceIte, Nat.reduceEqDiff, Int.reduceEq, eq_self, e1, e2, z3, xi2]
          repeat' (first | apply And.intro | intro)
          all_goals (try first | omega | contradiction | exact Or.inl trivial | exact Or.inr trivial)
          · rename_i c
            refine fin p I2 (by omega) b1 b2 b3 b4 b5 (fun q q0 q1 => ?_)
            by_cases e : q = p - 1
            · subst e; exact c
            · have := a5.2.2.2 q (p - 1) q0 (by omega) (by omega)
              have z := (el q q0 (by omega)).1
              have := z.1.1
              have := z1.1.1
              unfold a_rk at this
              try dsimp only at this
              have h3 := a5.2.2.2 q (p - 1) q0 (by omega) (by omega)
              unfold a_rk at h3
              try dsimp only at h3
              omega
          · rename_i c
            refine ihj (p + -1) _ (by omega) (by omega) (fun a ha => by rw [w_Ua ha]; exact b2 a ha) (fun q q0 q1 => ?_) (fun q q0 q1 => ?_) (fun q q0 q1 => ?_)
            · rw [w_Ug, if_pos rfl, if_neg (by omega)]; exact b3 q q0 (by omega)
            · rw [w_Ug, if_pos rfl]
              by_cases e : q = p
              · rw [if_pos e, e]
              · rw [if_neg e]; exact b4 q (by omega) q1
            · by_cases e : q = p - 1
              · subst e; omega
              · exact b5 q (by omega) q1
      exact loop i.toNat i I1 (by omega) (Int.le_refl _) (fun _ _ => rfl) (fun _ _ _ => rfl) (fun q q0 q1 => by omega) (fun q q0 q1 => by omega)
  have lay : ∀ (m : Nat) (h : Int) (u2 : Option Value) (I1 : w_I), h + m = s 0 → 0 ≤ h → w_fr p256 I I1 → I1 104 46 = a_ri s h → (∀ x, 0 ≤ x → x < h → a_mb s x → I1 134 (a_ri s x) = x ∧ I1 135 (a_ri s x) = m_kf s (s 1) (m_dw s x)) → w_T xs xl 256 7 [some (.ref 104), some (w_i h), u2] [] [] I1 J b Q := by
    intro m
    induction m with
    | zero =>
      intro h u2 I1 a0 a1 a2 a3 a4
      have e : h = s 0 := by omega
      subst e
      have hs1 : I1 110 = s := (w_frA a2 (fun _ => rfl)).trans hs
      refine b256_7 ?_
      try simp only [w_Ug, reduceIte, Nat.reduceEqDiff, Int.reduceEq, eq_self, hs1]
      repeat' (first | apply And.intro | intro)
      all_goals (try first | omega | contradiction | exact Or.inl trivial | exact Or.inr trivial)
      exact sort (a_ri s (s 0)).toNat 0 _ I1 (by omega) (by omega) a2 a3 (fun x hx => a4 x hx.1.1 hx.1.2 hx.2) (r_nil (fun x hx => by have := hx.2; have := a_ri_b (s := s) (h := x) hx.1.1.1; omega)) (fun q x y => by omega)
    | succ m ih =>
      intro h u2 I1 a0 a1 a2 a3 a4
      have hs1 : I1 110 = s := (w_frA a2 (fun _ => rfl)).trans hs
      have w1 := w.2.1 h a1 (by omega)
      have ris := a_ri_s (s := s) (h := h) a1
      have rib := a_ri_b (s := s) (h := h) a1
      have skip : ¬ a_mb s h → ∀ u2, w_T xs xl 256 7 [some (.ref 104), some (w_i (h + 1)), u2] [] [] I1 J b Q := by
        intro hm u2
        rw [if_neg hm, Int.add_zero] at ris
        refine ih (h + 1) u2 I1 (by omega) (by omega) a2 (by omega) (fun x x0 x1 x2 => ?_)
        by_cases e : x = h
        · exact absurd (e ▸ x2) hm
        · exact a4 x x0 (by omega) x2
      refine b256_7 ?_
      try simp only [w_Ug, reduceIte, Nat.reduceEqDiff, Int.reduceEq, eq_self, hs1]
      repeat' (first | apply And.intro | intro)
      all_goals (try first | omega | contradiction | exact Or.inl trivial | exact Or.inr trivial)
      refine s214 hs1 w (by omega) (fun f hf ef => ?_) (fun em => ?_)
      · have f0 := hf.1
        have f1 := hf.2.1
        have dw := m_dw_f wf hf ef a1
        by_cases c1 : s (20 + h) = 0
        · have sk := skip (fun z => z.1 c1)
          refine b256_22 ?_
          try simp only [w_Ug, reduceIte, Nat.reduceEqDiff, Int.reduceEq, eq_self, hs1]
          repeat' (first | apply And.intro | intro)
          all_goals (try first | omega | contradiction | exact Or.inl trivial | exact Or.inr trivial)
          all_goals exact sk _
        · have hm : a_mb s h := ⟨c1, by omega⟩
          rw [if_pos hm] at ris
          refine b256_22 ?_
          try simp only [w_Ug, reduceIte, Nat.reduceEqDiff, Int.reduceEq, eq_self, hs1, a3]
          repeat' (first | apply And.intro | intro)
          all_goals (try first | omega | contradiction | exact Or.inl trivial | exact Or.inr trivial)
          have hs2 : (w_U I1 134 (a_ri s h) h) 110 = s := by rw [w_Ua (by decide)]; exact hs1
          refine s218 hs2 w (by omega) (fun I2 fr2 => ?_)
          have fr2' : w_fr p256 I I2 := w_frt (w_frU a2 rfl) (p216_256 fr2)
          have e46 : I2 104 46 = a_ri s h := by rw [fr2 104 46 rfl, w_Ua (by decide)]; exact a3
          have kb1 := kb f
          refine b256_65 ?_
          try simp only [w_Ug, reduceIte, Nat.reduceEqDiff, Int.reduceEq, eq_self, e46]
          repeat' (first | apply And.intro | intro)
          all_goals (try first | omega | contradiction | exact Or.inl trivial | exact Or.inr trivial)
          refine ih (h + 1) _ _ (by omega) (by omega) (w_frU (w_frU fr2' rfl) rfl) ?_ (fun x x0 x1 x2 => ?_)
          · rw [w_Ug, if_pos rfl, if_pos rfl, ris]
          · simp only [w_Ug, reduceIte, Nat.reduceEqDiff]
            rw [fr2 134 _ rfl, fr2 135 _ rfl]
            simp only [w_Ug, reduceIte, Nat.reduceEqDiff]
            by_cases e : x = h
            · subst e
              rw [if_pos rfl, if_pos rfl, dw]
              exact ⟨rfl, rfl⟩
            · have lt := a_ri_lt x0 (show x < h by omega) x2
              rw [if_neg (by omega), if_neg (by omega)]
              exact a4 x x0 (by omega) x2
      · have dw := m_dw_e em
        have sk := skip (fun z => by have := z.2; omega)
        refine b256_22 ?_
        try simp only [w_Ug, reduceIte, Nat.reduceEqDiff, Int.reduceEq, eq_self, hs1]
        repeat' (first | apply And.intro | intro)
        all_goals (try first | omega | contradiction | exact Or.inl trivial | exact Or.inr trivial)
        all_goals exact sk _
  refine e256 (b256_0 ?_)
  refine lay (s 0).toNat 0 _ _ (by omega) (by omega) (w_frU w_frr rfl) ?_ (fun x x0 x1 => by omega)
  rw [w_Ug, if_pos rfl, if_pos rfl]
  rfl
end
end
