/-! who would rather have each other -/
noncomputable def fbz (n : Nat) (p u v : Nat → Nat) : Int := if fbk n p u v = 99 then -2 else (fbk n p u v : Int)
theorem fbk_ok {n : Nat} {p u v : Nat → Nat} (h : fbk n p u v ≠ 99) : fbk n p u v / 10 < n ∧ fbk n p u v % 10 < n ∧ fbk n p u v < 99 := by
  have hl : fbk n p u v < 99 := Nat.lt_of_le_of_ne (lst_le _ _) h
  have := lst_P hl
  exact ⟨this.1, this.2.1, hl⟩
noncomputable def mds (n : Nat) (p : Nat → Nat) (z : (Nat → Nat) × (Nat → Nat)) : Nat → (Nat → Nat) × (Nat → Nat)
  | 0 => z
  | i + 1 => if fbk n p (mds n p z i).1 (mds n p z i).2 = 99 then mds n p z i else pmJoin (mds n p z i).1 (mds n p z i).2 (fbk n p (mds n p z i).1 (mds n p z i).2 / 10) (fbk n p (mds n p z i).1 (mds n p z i).2 % 10)
noncomputable def mdT (n : Nat) (p u v : Nat → Nat) : Nat := lst (fun i => fbk n p (mds n p (u, v) i).1 (mds n p (u, v) i).2 = 99) 201
noncomputable def anMended (n : Nat) (p u v : Nat → Nat) (x : Int) : Int := if x ≠ -1 ∧ (x < 0 ∨ (n : Int) ≤ x) then -1 else if mdT n p u v = 201 then -7 else if x < 0 then (mdT n p u v : Int) else mz ((mds n p (u, v) (mdT n p u v)).1 x.toNat)
theorem mds_pm {n : Nat} {p u v : Nat → Nat} (h8 : n ≤ 8) (h : qPm n u v) : ∀ i, qPm n (mds n p (u, v) i).1 (mds n p (u, v) i).2
  | 0 => h
  | i + 1 => by
    have ih := mds_pm (p := p) h8 h i
    unfold mds
    split
    · exact ih
    · rename_i q
      have := fbk_ok q
      exact qPm_join ih h8 this.1 this.2.1
theorem mds_n {n : Nat} {p : Nat → Nat} {z : (Nat → Nat) × (Nat → Nat)} {i : Nat} (h : fbk n p (mds n p z i).1 (mds n p z i).2 ≠ 99) : mds n p z (i + 1) = pmJoin (mds n p z i).1 (mds n p z i).2 (fbk n p (mds n p z i).1 (mds n p z i).2 / 10) (fbk n p (mds n p z i).1 (mds n p z i).2 % 10) := by
  show (if _ then _ else _) = _
  rw [if_neg h]
theorem mz_rng {n : Nat} {u v : Nat → Nat} (hpm : qPm n u v) (h8 : n ≤ 8) {a : Nat} (ha : a < n) : (u a = 9 ∧ mz (u a) = -2) ∨ (u a < n ∧ mz (u a) = (u a : Int)) := by
  rcases hpm.1 a ha with q | q
  · exact Or.inl ⟨q, by rw [q]; rfl⟩
  · exact Or.inr ⟨q.1, mz_n (by omega)⟩
theorem en_R_doBlock {a N : Nat} {n : Nat} {u v : Nat → Nat} {d : Nat} {K : qm_K} {M : qm_M} {l : Int} {g : Int} (hA : qArr (qL qLM) a N) (h :
    0 ≤ l ∧ l < N ∧
    ∀ (y1 : Int), y1 = (M a (Int.toNat l)) →
    (y1 = g →
     K (.inl 0) (qL qLM) M) ∧
    (¬ y1 = g →
     0 ≤ l ∧ l < N ∧
     ∀ (y2 : Int), y2 = (M a (Int.toNat l)) →
     (0 ≤ ((0 : Int) : Int) ∧ ((0 : Int) : Int) ≤ 1 ∧ 0 ≤ (l : Int) ∧ (l : Int) ≤ 7 ∧ 0 ≤ (g : Int) ∧ (g : Int) ≤ 7 ∧ (y2 : Int) ≤ 7) ∧
     (((y2 : Int) < 0 ∨ M 73 (Int.toNat (64 * 0 + 8 * l + g)) < M 73 (Int.toNat (64 * 0 + 8 * l + y2))) →
      (M 71 0 = (n : Int) ∧ qHa M a n u ∧ qPm n u v ∧ n ≤ 8 ∧ n ≤ (N : Nat)) ∧
      (0 ≤ (g : Int) ∧ (g : Int) < (n : Int)) ∧
      ∀ (y3 : Int), y3 = (mz (v (Int.toNat g))) →
      (0 ≤ ((1 : Int) : Int) ∧ ((1 : Int) : Int) ≤ 1 ∧ 0 ≤ (g : Int) ∧ (g : Int) ≤ 7 ∧ 0 ≤ (l : Int) ∧ (l : Int) ≤ 7 ∧ (y3 : Int) ≤ 7) ∧
      (((y3 : Int) < 0 ∨ M 73 (Int.toNat (64 * 1 + 8 * g + l)) < M 73 (Int.toNat (64 * 1 + 8 * g + y3))) →
       K (.inl 1) (qL qLM) M) ∧
      (¬ ((y3 : Int) < 0 ∨ M 73 (Int.toNat (64 * 1 + 8 * g + l)) < M 73 (Int.toNat (64 * 1 + 8 * g + y3))) →
       K (.inl 0) (qL qLM) M)) ∧
     (¬ ((y2 : Int) < 0 ∨ M 73 (Int.toNat (64 * 0 + 8 * l + g)) < M 73 (Int.toNat (64 * 0 + 8 * l + y2))) →
      K (.inl 0) (qL qLM) M))) : qm_Runs qm_P (d + 4) 208 [(.inr (some 71)), (.inr (some a)), (.inl l), (.inl g)] (qL qLM) M K :=
  And.intro (Nat.le_of_ble_eq_true rfl) (show qm_TT qi_208 (qm_Runs qm_P (d + 3)) K 0 [some (.inr (some 71)), some (.inr (some a)), some (.inl l), some (.inl g)] [] (qL qLM) M 0 0 from qm_wp_TT [] 30 (Exists.intro N (And.intro hA.1 (And.intro h.1 (And.intro h.2.1 (And.intro (fun q4 => And.intro (Or.inl rfl) ((h.2.2 _ rfl).1 q4)) (fun q5 => Exists.intro N (And.intro hA.1 (And.intro ((h.2.2 _ rfl).2 q5).1 (And.intro ((h.2.2 _ rfl).2 q5).2.1 (And.intro (lo_71 ()) (s_R_rather (d := d + 0)  ((((h.2.2 _ rfl).2 q5).2.2 _ rfl).1) (And.intro (fun q6 => And.intro (Or.inl rfl) ((((h.2.2 _ rfl).2 q5).2.2 _ rfl).2.2 (qm_b0 q6))) (fun q7 => And.intro (lo_71 ()) (s_R_handLeft (d := d + 2) hA (((((h.2.2 _ rfl).2 q5).2.2 _ rfl).2.1 (qm_b1 q7)).1) (((((h.2.2 _ rfl).2 q5).2.2 _ rfl).2.1 (qm_b1 q7)).2.1) (And.intro (lo_71 ()) (s_R_rather (d := d + 0)  ((((((h.2.2 _ rfl).2 q5).2.2 _ rfl).2.1 (qm_b1 q7)).2.2 _ rfl).1) (And.intro (fun q8 => And.intro (Or.inl rfl) ((((((h.2.2 _ rfl).2 q5).2.2 _ rfl).2.1 (qm_b1 q7)).2.2 _ rfl).2.2 (qm_b0 q8))) (fun q9 => And.intro (Or.inr rfl) ((((((h.2.2 _ rfl).2 q5).2.2 _ rfl).2.1 (qm_b1 q7)).2.2 _ rfl).2.1 (qm_b1 q9)))))))))))))))))))))
theorem s_R_doBlock {a N : Nat} {n : Nat} {w p u v : Nat → Nat} {d : Nat} {K : qm_K} {M : qm_M} {l : Int} {g : Int} (hA : qArr (qL qLM) a N) (hp0 : qMR M n w p ∧ qHa M a n u ∧ qPm n u v ∧ 8 ≤ (N : Nat)) (hp1 : 0 ≤ (l : Int) ∧ (l : Int) < (n : Int) ∧ 0 ≤ (g : Int) ∧ (g : Int) < (n : Int)) (hK : ∀ (r : Int), (r = qm_b (blk p u v (Int.toNat l) (Int.toNat g))) → K (.inl r) (qL qLM) M) : qm_Runs qm_P (d + 4) 208 [(.inr (some 71)), (.inr (some a)), (.inl l), (.inl g)] (qL qLM) M K := by
  obtain ⟨hMR, hu, hpm, hN⟩ := hp0
  have hI := hMR.2.2.2
  have h8 := hI.2.1
  obtain ⟨l, rfl⟩ : ∃ b : Nat, l = (b : Int) := ⟨l.toNat, by omega⟩
  obtain ⟨r, rfl⟩ : ∃ b : Nat, g = (b : Int) := ⟨g.toNat, by omega⟩
  rw [Int.toNat_natCast, Int.toNat_natCast] at hK
  have hl : l < n := by omega
  have hr : r < n := by omega
  have ml := mz_rng hpm h8 hl
  have mr : (v r = 9 ∧ mz (v r) = -2) ∨ (v r < n ∧ mz (v r) = (v r : Int)) := by
    rcases hpm.2 r hr with q | q
    · exact Or.inl ⟨q, by rw [q]; rfl⟩
    · exact Or.inr ⟨q.1, mz_n (by omega)⟩
  have no : ¬ blk p u v l r → K (.inl 0) (qL qLM) M := fun h => hK 0 (qm_bff h).symm
  have e0 : ∀ x y : Int, 64 * 0 + 8 * x + y = 64 * ((0 : Nat) : Int) + 8 * x + y := fun x y => by omega
  have e1 : ∀ x y : Int, 64 * 1 + 8 * x + y = 64 * ((1 : Nat) : Int) + 8 * x + y := fun x y => by omega
  have c1 : (mz (u l) < 0 ∨ M 73 (Int.toNat (64 * 0 + 8 * (l : Int) + (r : Int))) < M 73 (Int.toNat (64 * 0 + 8 * (l : Int) + mz (u l)))) ↔ (u l = 9 ∨ p (ix 0 l r) < p (ix 0 l (u l))) := by
    rw [e0, e0, rPl hMR (by decide) hl hr]
    rcases ml with q | q
    · rw [q.2]; exact ⟨fun _ => Or.inl q.1, fun _ => Or.inl (by decide)⟩
    · rw [q.2, rPl hMR (by decide) hl q.1]
      omega
  have c2 : (mz (v r) < 0 ∨ M 73 (Int.toNat (64 * 1 + 8 * (r : Int) + (l : Int))) < M 73 (Int.toNat (64 * 1 + 8 * (r : Int) + mz (v r)))) ↔ (v r = 9 ∨ p (ix 1 r l) < p (ix 1 r (v r))) := by
    rw [e1, e1, rPl hMR (by decide) hr hl]
    rcases mr with q | q
    · rw [q.2]; exact ⟨fun _ => Or.inl q.1, fun _ => Or.inl (by decide)⟩
    · rw [q.2, rPl hMR (by decide) hr q.1]
      omega
  refine en_R_doBlock (n := n) (u := u) (v := v) hA (And.intro (by omega) (And.intro (by omega) ?_))
  intro y1 q1
  rw [Int.toNat_natCast, hu l hl] at q1
  refine And.intro (fun h => no (fun z => z.1 (by
    rcases ml with q | q
    · rw [q1, q.2] at h; omega
    · rw [q1, q.2] at h; omega))) (fun h => And.intro (by omega) (And.intro (by omega) ?_))
  intro y2 q2
  rw [Int.toNat_natCast, hu l hl] at q2
  subst q2
  refine And.intro (by omega) (And.intro (fun h2 => And.intro ⟨hMR.1, hu, hpm, h8, by omega⟩ (And.intro (by omega) ?_)) (fun h2 => no (fun z => h2 (c1.mpr z.2.1))))
  intro y3 q3
  rw [Int.toNat_natCast] at q3
  subst q3
  refine And.intro (by omega) (And.intro (fun h3 => hK 1 (qm_bt ⟨?_, c1.mp h2, c2.mp h3⟩).symm) (fun h3 => no (fun z => h3 (c2.mpr z.2.2))))
  intro z
  apply h
  rw [q1, mz_n (by omega), z]
def at_R_firstBlocking_2 (a N : Nat) (d : Nat) (K : qm_K) (M : qm_M) (x2 : Int) : Prop := ∀ (d3 : Option qm_V), qm_TT qi_209 (qm_Runs qm_P (d + 4)) K 2 [some (.inr (some 71)), some (.inr (some a)), some (.inl x2), d3] [] (qL qLM) M 0 0
def at_R_firstBlocking_12 (a N : Nat) (d : Nat) (K : qm_K) (M : qm_M) (x2 x3 : Int) : Prop := qm_TT qi_209 (qm_Runs qm_P (d + 4)) K 12 [some (.inr (some 71)), some (.inr (some a)), some (.inl x2), some (.inl x3)] [] (qL qLM) M 0 0
theorem rg_R_firstBlocking_2 {a N : Nat} {n : Nat} {w p u v : Nat → Nat} {d : Nat} {K : qm_K} {M : qm_M} {x2 : Int} (hA : qArr (qL qLM) a N) (h :
    ((M 71 0) ≤ x2 →
     K (.inl ((-2))) (qL qLM) M) ∧
    (¬ (M 71 0) ≤ x2 →
     at_R_firstBlocking_12 a N d K M x2 0)) : at_R_firstBlocking_2 a N d K M x2 :=
  fun d3 => qm_wp_TT [2, 12] 19 (And.intro (lf_71_0 ()) (And.intro (fun q3 => (h.1 q3)) (fun q4 => (h.2 q4))))
theorem rg_R_firstBlocking_12 {a N : Nat} {n : Nat} {w p u v : Nat → Nat} {d : Nat} {K : qm_K} {M : qm_M} {x2 x3 : Int} (hA : qArr (qL qLM) a N) (h :
    ((M 71 0) ≤ x3 →
     qm_R (x2 + 1) ∧
     at_R_firstBlocking_2 a N d K M ((x2 + 1))) ∧
    (¬ (M 71 0) ≤ x3 →
     (qMR M n w p ∧ qHa M a n u ∧ qPm n u v ∧ 8 ≤ (N : Nat)) ∧
     (0 ≤ (x2 : Int) ∧ (x2 : Int) < (n : Int) ∧ 0 ≤ (x3 : Int) ∧ (x3 : Int) < (n : Int)) ∧
     (∀ (r1 : Int), (r1 = qm_b (blk p u v (Int.toNat x2) (Int.toNat x3))) →
      (r1 = 0 →
       qm_R (x3 + 1) ∧
       at_R_firstBlocking_12 a N d K M x2 ((x3 + 1))) ∧
      (¬ r1 = 0 →
       qm_R (10 * x2) ∧
       qm_R ((10 * x2) + x3) ∧
       K (.inl (((10 * x2) + x3))) (qL qLM) M)))) : at_R_firstBlocking_12 a N d K M x2 x3 :=
  qm_wp_TT [2, 12] 19 (And.intro (lf_71_0 ()) (And.intro (fun q5 => And.intro (h.1 q5).1 ((h.1 q5).2 _)) (fun q6 => And.intro (lo_71 ()) (s_R_doBlock (d := d + 0) hA ((h.2 q6).1) ((h.2 q6).2.1) (fun r1 p7 => And.intro (fun q8 => And.intro (((h.2 q6).2.2 r1 p7).1 q8).1 ((((h.2 q6).2.2 r1 p7).1 q8).2)) (fun q9 => And.intro (((h.2 q6).2.2 r1 p7).2 q9).1 (And.intro (((h.2 q6).2.2 r1 p7).2 q9).2.1 ((((h.2 q6).2.2 r1 p7).2 q9).2.2))))))))
theorem en_R_firstBlocking {a N : Nat} {n : Nat} {w p u v : Nat → Nat} {d : Nat} {K : qm_K} {M : qm_M}  (hA : qArr (qL qLM) a N) (h :
    at_R_firstBlocking_2 a N d K M 0) : qm_Runs qm_P (d + 5) 209 [(.inr (some 71)), (.inr (some a))] (qL qLM) M K :=
  And.intro (Nat.le_of_ble_eq_true rfl) (show qm_TT qi_209 (qm_Runs qm_P (d + 4)) K 0 [some (.inr (some 71)), some (.inr (some a)), none, none] [] (qL qLM) M 0 0 from qm_wp_TT [2, 12] 19 (h _))
theorem lp_R_firstBlocking {a N d : Nat} {n : Nat} {w p u v : Nat → Nat} {K : qm_K} {M : qm_M} (hA : qArr (qL qLM) a N) (hp0 : qMR M n w p ∧ qHa M a n u ∧ qPm n u v ∧ 8 ≤ N) (hK : K (.inl (fbz n p u v)) (qL qLM) M) : ∀ (k l : Nat), l + k = n → (∀ x y, x < l → y < n → ¬ blk p u v x y) → at_R_firstBlocking_2 a N d K M (l : Int)
  | 0, l, hl, h1 => fun d3 => by
    have := fbk_no (n := n) (fun x y hx hy => h1 x y (by omega) hy)
    refine rg_R_firstBlocking_2 (n := n) (w := w) (p := p) (u := u) (v := v) hA (And.intro (fun _ => ?_) (fun q => absurd q (by rw [hp0.1.1]; omega))) d3
    unfold fbz at hK
    rw [if_pos this] at hK
    exact hK
  | k + 1, l, hl, h1 => fun d3 => by
    have hI := hp0.1.2.2.2
    have h8 := hI.2.1
    have inner : ∀ (i r : Nat), r + i = n → (∀ y, y < r → ¬ blk p u v l y) → at_R_firstBlocking_12 a N d K M (l : Int) (r : Int) := by
      intro i
      induction i with
      | zero =>
        intro r hr h2
        refine rg_R_firstBlocking_12 (n := n) (w := w) (p := p) (u := u) (v := v) hA (And.intro (fun _ => And.intro (by unfold qm_R; omega) ?_) (fun q => absurd q (by rw [hp0.1.1]; omega)))
        exact lp_R_firstBlocking hA hp0 hK k (l + 1) (by omega) (fun x y hx hy => by
          by_cases q : x = l
          · rw [q]; exact h2 y (by omega)
          · exact h1 x y (by omega) hy)
      | succ i ih =>
        intro r hr h2
        refine rg_R_firstBlocking_12 (n := n) (w := w) (p := p) (u := u) (v := v) hA (And.intro (fun q => absurd q (by rw [hp0.1.1]; omega)) (fun _ => And.intro hp0 (And.intro (by omega) ?_)))
        intro r1 q1
        rw [Int.toNat_natCast, Int.toNat_natCast] at q1
        refine And.intro (fun z => And.intro (by unfold qm_R; omega) (ih (r + 1) (by omega) (fun y hy => ?_))) (fun z => And.intro (by unfold qm_R; omega) (And.intro (by unfold qm_R; omega) ?_))
        · by_cases q : y = r
          · rw [q]; intro hb; rw [q1, qm_bt hb] at z; exact absurd z (by decide)
          · exact h2 y (by omega)
        · have hb : blk p u v l r := Classical.byContradiction fun hb => z (by rw [q1, qm_bff hb])
          have := fbk_at h8 (by omega) (by omega) hb h1 h2
          unfold fbz at hK
          rw [if_neg (by omega), this] at hK
          exact hK
    refine rg_R_firstBlocking_2 (n := n) (w := w) (p := p) (u := u) (v := v) hA (And.intro (fun q => absurd q (by rw [hp0.1.1]; omega)) (fun _ => ?_)) d3
    exact inner n 0 (by omega) (fun y hy => absurd hy (Nat.not_lt_zero _))
theorem s_R_firstBlocking {a N : Nat} {n : Nat} {w p u v : Nat → Nat} {d : Nat} {K : qm_K} {M : qm_M}  (hA : qArr (qL qLM) a N) (hp0 : qMR M n w p ∧ qHa M a n u ∧ qPm n u v ∧ 8 ≤ (N : Nat)) (hK : ∀ (r : Int), (r = fbz n p u v) → K (.inl r) (qL qLM) M) : qm_Runs qm_P (d + 5) 209 [(.inr (some 71)), (.inr (some a))] (qL qLM) M K := by
  exact en_R_firstBlocking (n := n) (w := w) (p := p) (u := u) (v := v) hA (lp_R_firstBlocking hA hp0 (hK _ rfl) n 0 (by omega) (fun x y hx => absurd hx (Nat.not_lt_zero _)))
theorem en_R_blocks  {n : Nat} {w p u v : Nat → Nat} {d : Nat} {K : qm_K} {M : qm_M}  (h :
    (qMR M n w p ∧ qHa M 79 n u ∧ qPm n u v ∧ 8 ≤ (8 : Nat)) ∧
    (∀ (r1 : Int), (r1 = fbz n p u v) →
     K (.inl r1) (qL qLM) M)) : qm_Runs qm_P (d + 6) 210 [(.inr (some 71))] (qL qLM) M K :=
  And.intro (Nat.le_of_ble_eq_true rfl) (show qm_TT qi_210 (qm_Runs qm_P (d + 5)) K 0 [some (.inr (some 71))] [] (qL qLM) M 0 0 from qm_wp_TT [] 8 (Exists.intro 79 (And.intro (lf_71_11 ()) (And.intro (lo_71 ()) (s_R_firstBlocking (d := d + 0) (And.intro (la_79 ()) (by decide)) (h.1) (fun r1 p3 => (h.2 r1 p3)))))))
theorem s_R_blocks  {n b f ln kn : Nat} {H : Nat → Nat → Nat} {p u v tp kw kp ku kv : Nat → Nat} {d : Nat} {K : qm_K} {M : qm_M}  (hp0 : rI M n H b f p u v ln tp kn kw kp ku kv) (hK : ∀ (r : Int), (r = fbz n p u v) → K (.inl r) (qL qLM) M) : qm_Runs qm_P (d + 6) 210 [(.inr (some 71))] (qL qLM) M K := by
  refine en_R_blocks (n := n) (w := H b) (p := p) (u := u) (v := v) (And.intro ⟨hp0.1.1, hp0.2.1.1, hp0.2.1.2, by decide⟩ ?_)
  intro r1 q1
  exact hK r1 q1
def at_R_blocking_4  (d : Nat) (K : qm_K) (M : qm_M) (x1 x2 : Int) : Prop := ∀ (d3 : Option qm_V), qm_TT qi_211 (qm_Runs qm_P (d + 4)) K 4 [some (.inr (some 71)), some (.inl x1), some (.inl x2), d3] [] (qL qLM) M 0 0
def at_R_blocking_14  (d : Nat) (K : qm_K) (M : qm_M) (x1 x2 x3 : Int) : Prop := qm_TT qi_211 (qm_Runs qm_P (d + 4)) K 14 [some (.inr (some 71)), some (.inl x1), some (.inl x2), some (.inl x3)] [] (qL qLM) M 0 0
theorem rg_R_blocking_4  {n : Nat} {w p u v : Nat → Nat} {d : Nat} {K : qm_K} {M : qm_M} {x1 x2 : Int} (h :
    ((M 71 0) ≤ x2 →
     K (.inl x1) (qL qLM) M) ∧
    (¬ (M 71 0) ≤ x2 →
     at_R_blocking_14  d K M x1 x2 0)) : at_R_blocking_4  d K M x1 x2 :=
  fun d3 => qm_wp_TT [4, 14] 22 (And.intro (lf_71_0 ()) (And.intro (fun q3 => (h.1 q3)) (fun q4 => (h.2 q4))))
theorem rg_R_blocking_14  {n : Nat} {w p u v : Nat → Nat} {d : Nat} {K : qm_K} {M : qm_M} {x1 x2 x3 : Int} (h :
    ((M 71 0) ≤ x3 →
     qm_R (x2 + 1) ∧
     at_R_blocking_4  d K M x1 ((x2 + 1))) ∧
    (¬ (M 71 0) ≤ x3 →
     (qMR M n w p ∧ qHa M 79 n u ∧ qPm n u v ∧ 8 ≤ (8 : Nat)) ∧
     (0 ≤ (x2 : Int) ∧ (x2 : Int) < (n : Int) ∧ 0 ≤ (x3 : Int) ∧ (x3 : Int) < (n : Int)) ∧
     (∀ (r1 : Int), (r1 = qm_b (blk p u v (Int.toNat x2) (Int.toNat x3))) →
      (r1 = 0 →
       qm_R (x1 + 0) ∧
       qm_R (x3 + 1) ∧
       at_R_blocking_14  d K M ((x1 + 0)) x2 ((x3 + 1))) ∧
      (¬ r1 = 0 →
       qm_R (x1 + 1) ∧
       qm_R (x3 + 1) ∧
       at_R_blocking_14  d K M ((x1 + 1)) x2 ((x3 + 1)))))) : at_R_blocking_14  d K M x1 x2 x3 :=
  qm_wp_TT [4, 14] 22 (And.intro (lf_71_0 ()) (And.intro (fun q5 => And.intro (h.1 q5).1 ((h.1 q5).2 _)) (fun q6 => Exists.intro 79 (And.intro (lf_71_11 ()) (And.intro (lo_71 ()) (s_R_doBlock (d := d + 0) (And.intro (la_79 ()) (by decide)) ((h.2 q6).1) ((h.2 q6).2.1) (fun r1 p7 => And.intro (fun q8 => And.intro (((h.2 q6).2.2 r1 p7).1 q8).1 (And.intro (((h.2 q6).2.2 r1 p7).1 q8).2.1 ((((h.2 q6).2.2 r1 p7).1 q8).2.2))) (fun q9 => And.intro (((h.2 q6).2.2 r1 p7).2 q9).1 (And.intro (((h.2 q6).2.2 r1 p7).2 q9).2.1 ((((h.2 q6).2.2 r1 p7).2 q9).2.2))))))))))
theorem en_R_blocking  {n : Nat} {w p u v : Nat → Nat} {d : Nat} {K : qm_K} {M : qm_M}  (h :
    at_R_blocking_4  d K M 0 0) : qm_Runs qm_P (d + 5) 211 [(.inr (some 71))] (qL qLM) M K :=
  And.intro (Nat.le_of_ble_eq_true rfl) (show qm_TT qi_211 (qm_Runs qm_P (d + 4)) K 0 [some (.inr (some 71)), none, none, none] [] (qL qLM) M 0 0 from qm_wp_TT [4, 14] 22 (h _))
theorem lp_R_blocking {d : Nat} {n : Nat} {w p u v : Nat → Nat} {K : qm_K} {M : qm_M} (hp0 : qMR M n w p ∧ qHa M 79 n u ∧ qPm n u v ∧ 8 ≤ 8) (hK : K (.inl (nbk n p u v : Int)) (qL qLM) M) : ∀ (k l : Nat), l + k = n → at_R_blocking_4 d K M ((sumN (fun l => cnt (fun r => blk p u v l r) n) l : Nat) : Int) (l : Int)
  | 0, l, hl => fun d3 => by
    have hl : l = n := by omega
    subst hl
    exact rg_R_blocking_4 (n := l) (w := w) (p := p) (u := u) (v := v) (And.intro (fun _ => hK) (fun q => absurd q (by rw [hp0.1.1]; omega))) d3
  | k + 1, l, hl => fun d3 => by
    have hI := hp0.1.2.2.2
    have h8 := hI.2.1
    have b1 : sumN (fun l => cnt (fun r => blk p u v l r) n) l ≤ l * n := sumN_le (fun j _ => cnt_le _ _)
    have b3 : l * n ≤ 8 * 8 := Nat.mul_le_mul (by omega) h8
    have inner : ∀ (i r : Nat), r + i = n → at_R_blocking_14 d K M ((sumN (fun l => cnt (fun r => blk p u v l r) n) l + cnt (fun r => blk p u v l r) r : Nat) : Int) (l : Int) (r : Int) := by
      intro i
      induction i with
      | zero =>
        intro r hr
        have hr : r = n := by omega
        subst hr
        refine rg_R_blocking_14 (n := r) (w := w) (p := p) (u := u) (v := v) (And.intro (fun _ => And.intro (by unfold qm_R; omega) ?_) (fun q => absurd q (by rw [hp0.1.1]; omega)))
        exact lp_R_blocking hp0 hK k (l + 1) (by omega)
      | succ i ih =>
        intro r hr
        have b2 := cnt_le (fun r => blk p u v l r) r
        have ih := ih (r + 1) (by omega)
        refine rg_R_blocking_14 (n := n) (w := w) (p := p) (u := u) (v := v) (And.intro (fun q => absurd q (by rw [hp0.1.1]; omega)) (fun _ => And.intro hp0 (And.intro (by omega) ?_)))
        intro r1 q1
        rw [Int.toNat_natCast, Int.toNat_natCast] at q1
        refine And.intro (fun z => And.intro (by unfold qm_R; omega) (And.intro (by unfold qm_R; omega) ?_)) (fun z => And.intro (by unfold qm_R; omega) (And.intro (by unfold qm_R; omega) ?_))
        · rw [cnt_f (fun hb => by rw [q1, qm_bt hb] at z; exact absurd z (by decide))] at ih
          rw [Int.add_zero]
          exact ih
        · rw [cnt_t (Classical.byContradiction fun hb => z (by rw [q1, qm_bff hb]))] at ih
          exact ih
    refine rg_R_blocking_4 (n := n) (w := w) (p := p) (u := u) (v := v) (And.intro (fun q => absurd q (by rw [hp0.1.1]; omega)) (fun _ => ?_)) d3
    exact inner n 0 (by omega)
theorem s_R_blocking  {n b f ln kn : Nat} {H : Nat → Nat → Nat} {p u v tp kw kp ku kv : Nat → Nat} {d : Nat} {K : qm_K} {M : qm_M}  (hp0 : rI M n H b f p u v ln tp kn kw kp ku kv) (hK : ∀ (r : Int), (r = (nbk n p u v : Int)) → K (.inl r) (qL qLM) M) : qm_Runs qm_P (d + 5) 211 [(.inr (some 71))] (qL qLM) M K := by
  exact en_R_blocking (n := n) (w := H b) (p := p) (u := u) (v := v) (lp_R_blocking ⟨hp0.1.1, hp0.2.1.1, hp0.2.1.2, by decide⟩ (hK _ rfl) n 0 (by omega))
def at_R_mended_41  (d : Nat) (K : qm_K) (M : qm_M) (x1 x2 x3 : Int) : Prop := qm_TT qi_212 (qm_Runs qm_P (d + 5)) K 41 [some (.inr (some 71)), some (.inl x1), some (.inl x2), some (.inl x3)] [] (qL qLM) M 0 0
theorem rg_R_mended_41  {n : Nat} {w p u v u2 v2 : Nat → Nat} {d : Nat} {K : qm_K} {M : qm_M} {x1 x2 x3 : Int} (h :
    (x3 < 0 →
     (0 ≤ x1 →
      0 ≤ x1 ∧ x1 < 8 ∧
      ∀ (y7 : Int), y7 = (M 81 (Int.toNat x1)) →
      K (.inl y7) (qL qLM) M) ∧
     (¬ 0 ≤ x1 →
      K (.inl x2) (qL qLM) M)) ∧
    (¬ x3 < 0 →
     (x2 ≠ 200 →
      (0 : Int) < 10 ∧
      (0 : Int) < 10 ∧
      (M 71 0 = (n : Int) ∧ qHa M 81 n u ∧ qPm n u v ∧ n ≤ 8 ∧ 8 ≤ (8 : Nat)) ∧
      (0 ≤ ((Int.tdiv x3 10) : Int) ∧ ((Int.tdiv x3 10) : Int) < (n : Int) ∧ 0 ≤ ((Int.tmod x3 10) : Int) ∧ ((Int.tmod x3 10) : Int) < (n : Int)) ∧
      (∀ (M9 : qm_M), (qHa M9 81 n (pmJoin u v (Int.toNat (Int.tdiv x3 10)) (Int.toNat (Int.tmod x3 10))).1 ∧ ∀ c, c ≠ 81 → M9 c = M c) →
       qm_R (x2 + 1) ∧
       (qMR M9 n w p ∧ qHa M9 81 n u2 ∧ qPm n u2 v2 ∧ 8 ≤ (8 : Nat)) ∧
       (∀ (r10 : Int), (r10 = fbz n p u2 v2) →
        at_R_mended_41  d K M9 x1 ((x2 + 1)) r10))) ∧
     (¬ x2 ≠ 200 →
      K (.inl ((-7))) (qL qLM) M))) : at_R_mended_41  d K M x1 x2 x3 :=
  qm_wp_TT [41] 26 (And.intro (fun q12 => And.intro (fun q14 => Exists.intro 81 (And.intro (lf_71_13 ()) (Exists.intro 8 (And.intro (la_81 ()) (And.intro ((h.1 q12).1 q14).1 (And.intro ((h.1 q12).1 q14).2.1 ((((h.1 q12).1 q14).2.2 _ rfl)))))))) (fun q15 => ((h.1 q12).2 q15))) (fun q13 => And.intro (fun q16 => Exists.intro 81 (And.intro (lf_71_13 ()) (And.intro ((h.2 q13).1 q16).1 (And.intro ((h.2 q13).1 q16).2.1 (And.intro (lo_71 ()) (s_R_gives (d := d + 3) (And.intro (la_81 ()) (by decide)) (((h.2 q13).1 q16).2.2.1) (((h.2 q13).1 q16).2.2.2.1) (fun M9 p18 => And.intro (((h.2 q13).1 q16).2.2.2.2 M9 p18).1 (Exists.intro 81 (And.intro (lf_71_13 ()) (And.intro (lo_71 ()) (s_R_firstBlocking (d := d + 0) (And.intro (la_81 ()) (by decide)) ((((h.2 q13).1 q16).2.2.2.2 M9 p18).2.1) (fun r10 p19 => ((((h.2 q13).1 q16).2.2.2.2 M9 p18).2.2 r10 p19))))))))))))) (fun q17 => ((h.2 q13).2 q17))))
theorem en_R_mended  {n : Nat} {w p u v u2 v2 : Nat → Nat} {d : Nat} {K : qm_K} {M : qm_M} {x : Int} (h :
    (x = (-1) →
     (0 ≤ ((0 : Int) : Int) ∧ 0 ≤ ((0 : Int) : Int) ∧ 0 ≤ ((8 : Int) : Int) ∧ ((0 : Int) : Int) + (8 : Int) ≤ (8 : Int) ∧ ((0 : Int) : Int) + (8 : Int) ≤ (8 : Int)) ∧
     ((79 : Nat) ≠ 81 ∨ ((0 : Int) : Int) ≤ (0 : Int)) ∧
     ∀ (M1 : qm_M), M1 = (cpM M 79 0 81 0 8) →
     (qMR M1 n w p ∧ qHa M1 81 n u ∧ qPm n u v ∧ 8 ≤ (8 : Nat)) ∧
     (∀ (r2 : Int), (r2 = fbz n p u v) →
      at_R_mended_41  d K M1 x 0 r2)) ∧
    (¬ x = (-1) →
     (1 ≤ M 71 0 ∧ M 71 0 ≤ 8) ∧
     ((0 ≤ x ∧ x < M 71 0) →
      (0 ≤ ((0 : Int) : Int) ∧ 0 ≤ ((0 : Int) : Int) ∧ 0 ≤ ((8 : Int) : Int) ∧ ((0 : Int) : Int) + (8 : Int) ≤ (8 : Int) ∧ ((0 : Int) : Int) + (8 : Int) ≤ (8 : Int)) ∧
      ((79 : Nat) ≠ 81 ∨ ((0 : Int) : Int) ≤ (0 : Int)) ∧
      ∀ (M4 : qm_M), M4 = (cpM M 79 0 81 0 8) →
      (qMR M4 n w p ∧ qHa M4 81 n u ∧ qPm n u v ∧ 8 ≤ (8 : Nat)) ∧
      (∀ (r5 : Int), (r5 = fbz n p u v) →
       at_R_mended_41  d K M4 x 0 r5)) ∧
     (¬ (0 ≤ x ∧ x < M 71 0) →
      K (.inl ((-1))) (qL qLM) M))) : qm_Runs qm_P (d + 6) 212 [(.inr (some 71)), (.inl x)] (qL qLM) M K :=
  And.intro (Nat.le_of_ble_eq_true rfl) (show qm_TT qi_212 (qm_Runs qm_P (d + 5)) K 0 [some (.inr (some 71)), some (.inl x), none, none] [] (qL qLM) M 0 0 from qm_wp_TT [41] 26 (And.intro (fun q20 => Exists.intro 79 (And.intro (lf_71_11 ()) (Exists.intro 81 (And.intro (lf_71_13 ()) (And.intro True.intro (s_R_copies (d := d + 4) (And.intro (la_79 ()) (by decide)) (And.intro (la_81 ()) (by decide)) ((h.1 q20).1) ((h.1 q20).2.1) (Exists.intro 81 (And.intro (lf_71_13 ()) (And.intro (lo_71 ()) (s_R_firstBlocking (d := d + 0) (And.intro (la_81 ()) (by decide)) (((h.1 q20).2.2 _ rfl).1) (fun r2 p22 => (((h.1 q20).2.2 _ rfl).2 r2 p22)))))))))))) (fun q21 => And.intro (lo_71 ()) (s_R_isOne (d := d + 3)  ((h.2 q21).1) (And.intro (fun q23 => Exists.intro 79 (And.intro (lf_71_11 ()) (Exists.intro 81 (And.intro (lf_71_13 ()) (And.intro True.intro (s_R_copies (d := d + 4) (And.intro (la_79 ()) (by decide)) (And.intro (la_81 ()) (by decide)) (((h.2 q21).2.1 (qm_b1 q23)).1) (((h.2 q21).2.1 (qm_b1 q23)).2.1) (Exists.intro 81 (And.intro (lf_71_13 ()) (And.intro (lo_71 ()) (s_R_firstBlocking (d := d + 0) (And.intro (la_81 ()) (by decide)) ((((h.2 q21).2.1 (qm_b1 q23)).2.2 _ rfl).1) (fun r5 p25 => ((((h.2 q21).2.1 (qm_b1 q23)).2.2 _ rfl).2 r5 p25)))))))))))) (fun q24 => ((h.2 q21).2.2 (qm_b2 q24))))))))
theorem lp_R_mended {d : Nat} {n : Nat} {w p u v : Nat → Nat} {x : Int} {K : qm_K} {M0 : qm_M} (hMR : qMR M0 n w p) (hpm : qPm n u v) (hx : x = -1 ∨ (0 ≤ x ∧ x < (n : Int))) (hK : ∀ M : qm_M, (∀ c, c ≠ 81 → M c = M0 c) → K (.inl (anMended n p u v x)) (qL qLM) M) : ∀ (k i : Nat) (M : qm_M), i + k = 200 → (∀ c, c ≠ 81 → M c = M0 c) → qHa M 81 n (mds n p (u, v) i).1 → (∀ j, j < i → fbk n p (mds n p (u, v) j).1 (mds n p (u, v) j).2 ≠ 99) → at_R_mended_41 d K M x (i : Int) (fbz n p (mds n p (u, v) i).1 (mds n p (u, v) i).2)
  | k, i, M, hk, hF, hu, hb => by
    have hI := hMR.2.2.2
    have h8 := hI.2.1
    have hp := mds_pm (p := p) h8 hpm i
    by_cases q : fbk n p (mds n p (u, v) i).1 (mds n p (u, v) i).2 = 99
    · have hT : mdT n p u v = i := lst_eq (by omega) q (fun j hj => hb j hj)
      have fin := hK M hF
      unfold anMended at fin
      rw [if_neg (by omega), if_neg (by omega), hT] at fin
      unfold fbz
      rw [if_pos q]
      refine rg_R_mended_41 (n := n) (w := w) (p := p) (u := u) (v := v) (u2 := u) (v2 := v) (And.intro (fun _ => And.intro (fun h => And.intro h (And.intro (by omega) ?_)) (fun h => ?_)) (fun z => absurd (by decide) z))
      · intro y7 e7
        rw [hu _ (by omega)] at e7
        rw [if_neg (by omega), ← e7] at fin
        exact fin
      · rw [if_pos (by omega)] at fin
        exact fin
    · have hok := fbk_ok q
      have fx : fbz n p (mds n p (u, v) i).1 (mds n p (u, v) i).2 = (fbk n p (mds n p (u, v) i).1 (mds n p (u, v) i).2 : Int) := if_neg q
      rw [fx]
      have hn := mds_n q
      generalize hz : fbk n p (mds n p (u, v) i).1 (mds n p (u, v) i).2 = z at q hok hn
      have e1 : Int.tdiv (z : Int) 10 = ((z / 10 : Nat) : Int) := rfl
      have e2 : Int.tmod (z : Int) 10 = ((z % 10 : Nat) : Int) := rfl
      have c0 : M 71 = M0 71 := hF 71 (by decide)
      refine rg_R_mended_41 (n := n) (w := w) (p := p) (u := (mds n p (u, v) i).1) (v := (mds n p (u, v) i).2) (u2 := (mds n p (u, v) (i + 1)).1) (v2 := (mds n p (u, v) (i + 1)).2) (And.intro (fun h => absurd h (by omega)) (fun _ => And.intro (fun h => And.intro (by decide) (And.intro (by decide) ?_)) (fun h => ?_)))
      · rw [e1, e2]
        refine And.intro ⟨by rw [c0]; exact hMR.1, hu, hp, h8, by decide⟩ (And.intro (by omega) ?_)
        intro M9 q9
        rw [Int.toNat_natCast, Int.toNat_natCast, ← hn] at q9
        have hF9 : ∀ c, c ≠ 81 → M9 c = M0 c := fun c hc => by rw [q9.2 c hc]; exact hF c hc
        have mr9 := qMR_mem (M2 := M9) hMR (by rw [hF9 71 (by decide)]) (hF9 72 (by decide)) (hF9 73 (by decide))
        refine And.intro (by unfold qm_R; omega) (And.intro ⟨mr9, q9.1, mds_pm (p := p) h8 hpm (i + 1), by decide⟩ ?_)
        intro r10 q10
        rw [q10]
        have := lp_R_mended (d := d) hMR hpm hx hK (k - 1) (i + 1) M9 (by omega) hF9 q9.1 (fun j hj => by
          by_cases hji : j = i
          · rw [hji, hz]; exact q
          · exact hb j (by omega))
        exact this
      · have hT : mdT n p u v = 201 := lst_none (fun j hj => by
          by_cases hji : j = i
          · rw [hji, hz]; exact q
          · exact hb j (by omega))
        have fin := hK M hF
        unfold anMended at fin
        rw [if_neg (by omega), if_pos hT] at fin
        exact fin
termination_by k => k
decreasing_by omega
theorem s_R_mended  {n b f ln kn : Nat} {H : Nat → Nat → Nat} {p u v tp kw kp ku kv : Nat → Nat} {d : Nat} {K : qm_K} {M : qm_M} {x : Int} (hp0 : rI M n H b f p u v ln tp kn kw kp ku kv) (hK : ∀ (r : Int) (M2 : qm_M), (r = anMended n p u v x ∧ ∀ c, c ≠ 81 → M2 c = M c) → K (.inl r) (qL qLM) M2) : qm_Runs qm_P (d + 6) 212 [(.inr (some 71)), (.inl x)] (qL qLM) M K := by
  obtain ⟨⟨hMR, mb⟩, hha, hhs, htp, him, hkn⟩ := id hp0
  have hI := hMR.2.2.2
  have h1 := hI.1
  have h8 := hI.2.1
  have go : (x = -1 ∨ (0 ≤ x ∧ x < (n : Int))) → ∀ M1 : qm_M, M1 = cpM M 79 0 81 0 8 → (qMR M1 n (H b) p ∧ qHa M1 81 n u ∧ qPm n u v ∧ 8 ≤ 8) ∧ ∀ r2 : Int, r2 = fbz n p u v → at_R_mended_41 d K M1 x 0 r2 := fun hx M1 e1 => by
    have c1 : ∀ c, c ≠ 81 → M1 c = M c := fun c hc => by rw [e1, cpM_c hc]
    have u1 : qHa M1 81 n u := fun a ha => by rw [e1, cpM_8 (by omega)]; exact hha.1 a ha
    refine ⟨⟨qMR_mem hMR (by rw [c1 71 (by decide)]) (c1 72 (by decide)) (c1 73 (by decide)), u1, hha.2, by decide⟩, fun r2 q2 => ?_⟩
    rw [q2]
    exact lp_R_mended (d := d) hMR hha.2 hx (fun M2 f2 => hK _ M2 ⟨rfl, f2⟩) 200 0 M1 (by omega) c1 u1 (fun j hj => absurd hj (Nat.not_lt_zero _))
  refine en_R_mended (n := n) (w := H b) (p := p) (u := u) (v := v) (u2 := u) (v2 := v) (And.intro (fun h => And.intro (by decide) (And.intro (Or.inl (by decide)) ?_)) (fun h => And.intro (by rw [hMR.1]; omega) (And.intro (fun h2 => And.intro (by decide) (And.intro (Or.inl (by decide)) ?_)) (fun h2 => hK _ M ⟨?_, fun _ _ => rfl⟩))))
  · exact go (Or.inl h)
  · rw [hMR.1] at h2
    exact go (Or.inr h2)
  · rw [hMR.1] at h2
    unfold anMended
    rw [if_pos (by omega)]
theorem en_R_known  {n : Nat} {w p u : Nat → Nat} {d : Nat} {K : qm_K} {M : qm_M}  (h :
    (qMR M n w p) ∧
    (M 71 35 ≠ 0 → rKn M n w p) ∧
    (qHa M 79 n u ∧ 8 ≤ (8 : Nat) ∧ (79 < 82 ∨ 86 < 79) ∧ (79 < 89 ∨ 95 < 79) ∧ 79 ≠ 71) ∧
    (∀ (r1 : Int) (M2 : qm_M), (rNum n w p u r1 ∧ rKn M2 n w p ∧ M2 71 35 ≠ 0 ∧ kF M2 M) →
     K (.inl r1) (qL qLM) M2)) : qm_Runs qm_P (d + 9) 213 [(.inr (some 71))] (qL qLM) M K :=
  And.intro (Nat.le_of_ble_eq_true rfl) (show qm_TT qi_213 (qm_Runs qm_P (d + 8)) K 0 [some (.inr (some 71))] [] (qL qLM) M 0 0 from qm_wp_TT [] 8 (Exists.intro 79 (And.intro (lf_71_11 ()) (And.intro (lo_71 ()) (s_R_numberOf2 (d := d + 0) (And.intro (la_79 ()) (by decide)) (h.1) (h.2.1) (h.2.2.1) (fun r1 M2 p3 => (h.2.2.2 r1 M2 p3)))))))
theorem s_R_known  {n b f ln kn : Nat} {H : Nat → Nat → Nat} {p u v tp kw kp ku kv : Nat → Nat} {d : Nat} {K : qm_K} {M : qm_M}  (hp0 : rI M n H b f p u v ln tp kn kw kp ku kv) (hK : ∀ (r : Int) (M2 : qm_M), (rNum n (H b) p u r ∧ (M2 71 35 ≠ 0 → rKn M2 n (H b) p) ∧ mF M2 M) → K (.inl r) (qL qLM) M2) : qm_Runs qm_P (d + 9) 213 [(.inr (some 71))] (qL qLM) M K := by
  refine en_R_known (n := n) (w := H b) (p := p) (u := u) (And.intro hp0.1.1 (And.intro hp0.2.2.2.2.2 (And.intro ⟨hp0.2.1.1, by decide, by decide, by decide, by decide⟩ ?_)))
  intro r1 M2 q2
  exact hK r1 M2 ⟨q2.1, fun _ => q2.2.1, mF_k q2.2.2.2⟩
