/-! the fresh class's cells are its world, printed by wip/gen/reloc.py -/
def sNew : zSt := (fun k j => cond (Nat.beq k 0) (cond (Nat.beq j 15 || Nat.beq j 16) (-1) 0) (cond (Nat.beq k 4 || Nat.beq k 168 || Nat.beq k 199 || Nat.beq k 230) (cond (Nat.beq j 10) 6 (cond (Nat.beq j 11) 2 0)) (cond (Nat.beq k 240) (cond (Nat.ble 7 j) (cond (Nat.ble j 10) (-1) 0) 0) (cond (Nat.beq k 255) (cond (Nat.ble 2 j) (cond (Nat.ble j 4) (-1) 0) 0) 0))), fun k j => cond (Nat.beq k 3) ((kAt 121).2 j) 0)
theorem z_app {D : va_G} {cl : List vw_C} {X Y : va_W} {H : Heap} (h : va_P D cl (X ++ Y) H) : va_P D cl X H ∧ va_P D cl Y H := by
  rw [z_Pm] at h ⊢
  rw [z_Pm]
  exact ⟨fun x hx => h x (List.mem_append_left _ hx), fun x hx => h x (List.mem_append_right _ hx)⟩
theorem z_row {D : va_G} {cl : List vw_C} {a n : Nat} {cA : ClassId} {f g : Nat → Option Nat} {H : Heap} (h : va_at D cl (a, .inl (cA, n, .inr (.inr (.inr (.inr f))))) H) (e : ∀ i, i < n → f i = g i) : va_at D cl (a, .inl (cA, n, .inr (.inr (.inr (.inr g))))) H := by
  have e2 : vp_cell cA (n, .inr (.inr (.inr (.inr f)))) = vp_cell cA (n, .inr (.inr (.inr (.inr g)))) := by
    rw [vp_cell_q, vp_cell_q]
    unfold arrV
    congr 1
    congr 1
    funext j
    show va_rf (f j.val) = va_rf (g j.val)
    rw [e j.val j.isLt]
  have h : H[a]? = some (vp_cell cA (n, .inr (.inr (.inr (.inr f))))) := h
  rw [e2] at h
  exact h
theorem z_two {D : va_G} {cl : List vw_C} {x y : Nat × va_E} {X : va_W} {H : Heap} (h : va_P D cl (x :: y :: X) H) : va_P D cl X H := by
  rw [z_Pm] at h ⊢
  exact fun z hz => h z (List.mem_cons_of_mem _ (List.mem_cons_of_mem _ hz))
theorem z_obj {D : va_G} {cl : List vw_C} {a ci : Nat} {fs gs : List Value} {H : Heap} (h : va_at D cl (a, .inr (ci, fs)) H) (e : gs = fs) : va_at D cl (a, .inr (ci, gs)) H := by
  rw [e]
  exact h
set_option maxHeartbeats 1000000 in
set_option maxRecDepth 100000 in
theorem rb_1 {D : va_G} {cy : Nat → ClassId} {q : Nat → Nat} {H : Heap} (h : va_P D vwCl (bX9 cy (fun i => q (1 + i))) H) : ∀ k, 1 ≤ k → k < 4 → va_at D vwCl (q k, zCell cy q sNew k (zsh k)) H := by
  intro k h1 h2
  rcases (show k = 1 ∨ k = 2 ∨ k = 3 by omega) with rfl | rfl | rfl
  · rw [sC_1]
    refine z_obj (h 0 _ rfl) ?_
    unfold zFl
    simp only [List.mapIdx_cons, List.mapIdx_nil, zFv]
    rfl
  · rw [sC_2]; exact h 1 _ rfl
  · rw [sC_3]; exact h 2 _ rfl
set_option maxHeartbeats 1000000 in
set_option maxRecDepth 100000 in
theorem rb_4 {D : va_G} {cy : Nat → ClassId} {q : Nat → Nat} {H : Heap} (h : va_P D vwCl (bX3 cy (fun i => q (4 + i))) H) : ∀ k, 4 ≤ k → k < 14 → va_at D vwCl (q k, zCell cy q sNew k (zsh k)) H := by
  intro k h1 h2
  rcases (show k = 4 ∨ k = 5 ∨ k = 6 ∨ k = 7 ∨ k = 8 ∨ k = 9 ∨ k = 10 ∨ k = 11 ∨ k = 12 ∨ k = 13 by omega) with rfl | rfl | rfl | rfl | rfl | rfl | rfl | rfl | rfl | rfl
  · rw [sC_4]
    refine z_obj (h 0 _ rfl) ?_
    unfold zFl
    simp only [List.mapIdx_cons, List.mapIdx_nil, zFv]
    rfl
  · rw [sC_5]; exact h 1 _ rfl
  · rw [sC_6]; exact h 2 _ rfl
  · rw [sC_7]; exact h 3 _ rfl
  · rw [sC_8]; exact h 4 _ rfl
  · rw [sC_9]; exact h 5 _ rfl
  · rw [sC_10]; exact h 6 _ rfl
  · rw [sC_11]; exact h 7 _ rfl
  · rw [sC_12]; exact h 8 _ rfl
  · rw [sC_13]; exact h 9 _ rfl
set_option maxHeartbeats 1000000 in
set_option maxRecDepth 100000 in
theorem rb_14 {D : va_G} {cy : Nat → ClassId} {q : Nat → Nat} {H : Heap} (h : va_P D vwCl (bX6 cy (q 4) (fun i => q (14 + i))) H) : ∀ k, 14 ≤ k → k < 29 → va_at D vwCl (q k, zCell cy q sNew k (zsh k)) H := by
  intro k h1 h2
  rcases (show k = 14 ∨ k = 15 ∨ k = 16 ∨ k = 17 ∨ k = 18 ∨ k = 19 ∨ k = 20 ∨ k = 21 ∨ k = 22 ∨ k = 23 ∨ k = 24 ∨ k = 25 ∨ k = 26 ∨ k = 27 ∨ k = 28 by omega) with rfl | rfl | rfl | rfl | rfl | rfl | rfl | rfl | rfl | rfl | rfl | rfl | rfl | rfl | rfl
  · rw [sC_14]
    refine z_obj (h 0 _ rfl) ?_
    unfold zFl
    simp only [List.mapIdx_cons, List.mapIdx_nil, zFv]
    rfl
  · rw [sC_15]; exact h 1 _ rfl
  · rw [sC_16]; exact h 2 _ rfl
  · rw [sC_17]; exact h 3 _ rfl
  · rw [sC_18]; exact h 4 _ rfl
  · rw [sC_19]
    refine z_row (h 5 _ rfl) (fun i hi => ?_)
    rcases (show i = 0 ∨ i = 1 ∨ i = 2 ∨ i = 3 ∨ i = 4 ∨ i = 5 by omega) with rfl | rfl | rfl | rfl | rfl | rfl <;> rfl
  · rw [sC_20]; exact h 6 _ rfl
  · rw [sC_21]; exact h 7 _ rfl
  · rw [sC_22]; exact h 8 _ rfl
  · rw [sC_23]; exact h 9 _ rfl
  · rw [sC_24]; exact h 10 _ rfl
  · rw [sC_25]; exact h 11 _ rfl
  · rw [sC_26]; exact h 12 _ rfl
  · rw [sC_27]; exact h 13 _ rfl
  · rw [sC_28]; exact h 14 _ rfl
set_option maxHeartbeats 1000000 in
set_option maxRecDepth 100000 in
theorem rb_29 {D : va_G} {cy : Nat → ClassId} {q : Nat → Nat} {H : Heap} (h : va_P D vwCl (bX6 cy (q 4) (fun i => q (29 + i))) H) : ∀ k, 29 ≤ k → k < 44 → va_at D vwCl (q k, zCell cy q sNew k (zsh k)) H := by
  intro k h1 h2
  rcases (show k = 29 ∨ k = 30 ∨ k = 31 ∨ k = 32 ∨ k = 33 ∨ k = 34 ∨ k = 35 ∨ k = 36 ∨ k = 37 ∨ k = 38 ∨ k = 39 ∨ k = 40 ∨ k = 41 ∨ k = 42 ∨ k = 43 by omega) with rfl | rfl | rfl | rfl | rfl | rfl | rfl | rfl | rfl | rfl | rfl | rfl | rfl | rfl | rfl
  · rw [sC_29]
    refine z_obj (h 0 _ rfl) ?_
    unfold zFl
    simp only [List.mapIdx_cons, List.mapIdx_nil, zFv]
    rfl
  · rw [sC_30]; exact h 1 _ rfl
  · rw [sC_31]; exact h 2 _ rfl
  · rw [sC_32]; exact h 3 _ rfl
  · rw [sC_33]; exact h 4 _ rfl
  · rw [sC_34]
    refine z_row (h 5 _ rfl) (fun i hi => ?_)
    rcases (show i = 0 ∨ i = 1 ∨ i = 2 ∨ i = 3 ∨ i = 4 ∨ i = 5 by omega) with rfl | rfl | rfl | rfl | rfl | rfl <;> rfl
  · rw [sC_35]; exact h 6 _ rfl
  · rw [sC_36]; exact h 7 _ rfl
  · rw [sC_37]; exact h 8 _ rfl
  · rw [sC_38]; exact h 9 _ rfl
  · rw [sC_39]; exact h 10 _ rfl
  · rw [sC_40]; exact h 11 _ rfl
  · rw [sC_41]; exact h 12 _ rfl
  · rw [sC_42]; exact h 13 _ rfl
  · rw [sC_43]; exact h 14 _ rfl
set_option maxHeartbeats 1000000 in
set_option maxRecDepth 100000 in
theorem rb_44 {D : va_G} {cy : Nat → ClassId} {q : Nat → Nat} {H : Heap} (h : va_P D vwCl (bX7 cy (q 4) (fun i => q (44 + i))) H) : ∀ k, 44 ≤ k → k < 75 → va_at D vwCl (q k, zCell cy q sNew k (zsh k)) H := by
  intro k h1 h2
  rcases (show k = 44 ∨ k = 45 ∨ k = 46 ∨ k = 47 ∨ k = 48 ∨ k = 49 ∨ k = 50 ∨ k = 51 ∨ k = 52 ∨ k = 53 ∨ k = 54 ∨ k = 55 ∨ k = 56 ∨ k = 57 ∨ k = 58 ∨ k = 59 ∨ k = 60 ∨ k = 61 ∨ k = 62 ∨ k = 63 ∨ k = 64 ∨ k = 65 ∨ k = 66 ∨ k = 67 ∨ k = 68 ∨ k = 69 ∨ k = 70 ∨ k = 71 ∨ k = 72 ∨ k = 73 ∨ k = 74 by omega) with rfl | rfl | rfl | rfl | rfl | rfl | rfl | rfl | rfl | rfl | rfl | rfl | rfl | rfl | rfl | rfl | rfl | rfl | rfl | rfl | rfl | rfl | rfl | rfl | rfl | rfl | rfl | rfl | rfl | rfl | rfl
  · rw [sC_44]
    refine z_obj (h 0 _ rfl) ?_
    unfold zFl
    simp only [List.mapIdx_cons, List.mapIdx_nil, zFv]
    rfl
  · rw [sC_45]
    refine z_row (h 1 _ rfl) (fun i hi => ?_)
    rcases (show i = 0 ∨ i = 1 ∨ i = 2 ∨ i = 3 ∨ i = 4 ∨ i = 5 ∨ i = 6 ∨ i = 7 by omega) with rfl | rfl | rfl | rfl | rfl | rfl | rfl | rfl <;> rfl
  · rw [sC_46]
    refine z_obj (h 2 _ rfl) ?_
    unfold zFl
    simp only [List.mapIdx_cons, List.mapIdx_nil, zFv]
    rfl
  · rw [sC_47]; exact h 3 _ rfl
  · rw [sC_48]; exact h 4 _ rfl
  · rw [sC_49]; exact h 5 _ rfl
  · rw [sC_50]; exact h 6 _ rfl
  · rw [sC_51]
    refine z_row (h 7 _ rfl) (fun i hi => ?_)
    rcases (show i = 0 ∨ i = 1 ∨ i = 2 ∨ i = 3 ∨ i = 4 ∨ i = 5 by omega) with rfl | rfl | rfl | rfl | rfl | rfl <;> rfl
  · rw [sC_52]; exact h 8 _ rfl
  · rw [sC_53]; exact h 9 _ rfl
  · rw [sC_54]; exact h 10 _ rfl
  · rw [sC_55]; exact h 11 _ rfl
  · rw [sC_56]; exact h 12 _ rfl
  · rw [sC_57]; exact h 13 _ rfl
  · rw [sC_58]; exact h 14 _ rfl
  · rw [sC_59]; exact h 15 _ rfl
  · rw [sC_60]; exact h 16 _ rfl
  · rw [sC_61]
    refine z_obj (h 17 _ rfl) ?_
    unfold zFl
    simp only [List.mapIdx_cons, List.mapIdx_nil, zFv]
    rfl
  · rw [sC_62]; exact h 18 _ rfl
  · rw [sC_63]; exact h 19 _ rfl
  · rw [sC_64]; exact h 20 _ rfl
  · rw [sC_65]; exact h 21 _ rfl
  · rw [sC_66]
    refine z_row (h 22 _ rfl) (fun i hi => ?_)
    rcases (show i = 0 ∨ i = 1 ∨ i = 2 ∨ i = 3 ∨ i = 4 ∨ i = 5 by omega) with rfl | rfl | rfl | rfl | rfl | rfl <;> rfl
  · rw [sC_67]; exact h 23 _ rfl
  · rw [sC_68]; exact h 24 _ rfl
  · rw [sC_69]; exact h 25 _ rfl
  · rw [sC_70]; exact h 26 _ rfl
  · rw [sC_71]; exact h 27 _ rfl
  · rw [sC_72]; exact h 28 _ rfl
  · rw [sC_73]; exact h 29 _ rfl
  · rw [sC_74]; exact h 30 _ rfl
set_option maxHeartbeats 1000000 in
set_option maxRecDepth 100000 in
theorem rb_75 {D : va_G} {cy : Nat → ClassId} {q : Nat → Nat} {H : Heap} (h : va_P D vwCl (bX7 cy (q 4) (fun i => q (44 + i))) H) : ∀ k, 75 ≤ k → k < 106 → va_at D vwCl (q k, zCell cy q sNew k (zsh k)) H := by
  intro k h1 h2
  rcases (show k = 75 ∨ k = 76 ∨ k = 77 ∨ k = 78 ∨ k = 79 ∨ k = 80 ∨ k = 81 ∨ k = 82 ∨ k = 83 ∨ k = 84 ∨ k = 85 ∨ k = 86 ∨ k = 87 ∨ k = 88 ∨ k = 89 ∨ k = 90 ∨ k = 91 ∨ k = 92 ∨ k = 93 ∨ k = 94 ∨ k = 95 ∨ k = 96 ∨ k = 97 ∨ k = 98 ∨ k = 99 ∨ k = 100 ∨ k = 101 ∨ k = 102 ∨ k = 103 ∨ k = 104 ∨ k = 105 by omega) with rfl | rfl | rfl | rfl | rfl | rfl | rfl | rfl | rfl | rfl | rfl | rfl | rfl | rfl | rfl | rfl | rfl | rfl | rfl | rfl | rfl | rfl | rfl | rfl | rfl | rfl | rfl | rfl | rfl | rfl | rfl
  · rw [sC_75]; exact h 31 _ rfl
  · rw [sC_76]
    refine z_obj (h 32 _ rfl) ?_
    unfold zFl
    simp only [List.mapIdx_cons, List.mapIdx_nil, zFv]
    rfl
  · rw [sC_77]; exact h 33 _ rfl
  · rw [sC_78]; exact h 34 _ rfl
  · rw [sC_79]; exact h 35 _ rfl
  · rw [sC_80]; exact h 36 _ rfl
  · rw [sC_81]
    refine z_row (h 37 _ rfl) (fun i hi => ?_)
    rcases (show i = 0 ∨ i = 1 ∨ i = 2 ∨ i = 3 ∨ i = 4 ∨ i = 5 by omega) with rfl | rfl | rfl | rfl | rfl | rfl <;> rfl
  · rw [sC_82]; exact h 38 _ rfl
  · rw [sC_83]; exact h 39 _ rfl
  · rw [sC_84]; exact h 40 _ rfl
  · rw [sC_85]; exact h 41 _ rfl
  · rw [sC_86]; exact h 42 _ rfl
  · rw [sC_87]; exact h 43 _ rfl
  · rw [sC_88]; exact h 44 _ rfl
  · rw [sC_89]; exact h 45 _ rfl
  · rw [sC_90]; exact h 46 _ rfl
  · rw [sC_91]
    refine z_obj (h 47 _ rfl) ?_
    unfold zFl
    simp only [List.mapIdx_cons, List.mapIdx_nil, zFv]
    rfl
  · rw [sC_92]; exact h 48 _ rfl
  · rw [sC_93]; exact h 49 _ rfl
  · rw [sC_94]; exact h 50 _ rfl
  · rw [sC_95]; exact h 51 _ rfl
  · rw [sC_96]
    refine z_row (h 52 _ rfl) (fun i hi => ?_)
    rcases (show i = 0 ∨ i = 1 ∨ i = 2 ∨ i = 3 ∨ i = 4 ∨ i = 5 by omega) with rfl | rfl | rfl | rfl | rfl | rfl <;> rfl
  · rw [sC_97]; exact h 53 _ rfl
  · rw [sC_98]; exact h 54 _ rfl
  · rw [sC_99]; exact h 55 _ rfl
  · rw [sC_100]; exact h 56 _ rfl
  · rw [sC_101]; exact h 57 _ rfl
  · rw [sC_102]; exact h 58 _ rfl
  · rw [sC_103]; exact h 59 _ rfl
  · rw [sC_104]; exact h 60 _ rfl
  · rw [sC_105]; exact h 61 _ rfl
set_option maxHeartbeats 1000000 in
set_option maxRecDepth 100000 in
theorem rb_106 {D : va_G} {cy : Nat → ClassId} {q : Nat → Nat} {H : Heap} (h : va_P D vwCl (bX7 cy (q 4) (fun i => q (44 + i))) H) : ∀ k, 106 ≤ k → k < 137 → va_at D vwCl (q k, zCell cy q sNew k (zsh k)) H := by
  intro k h1 h2
  rcases (show k = 106 ∨ k = 107 ∨ k = 108 ∨ k = 109 ∨ k = 110 ∨ k = 111 ∨ k = 112 ∨ k = 113 ∨ k = 114 ∨ k = 115 ∨ k = 116 ∨ k = 117 ∨ k = 118 ∨ k = 119 ∨ k = 120 ∨ k = 121 ∨ k = 122 ∨ k = 123 ∨ k = 124 ∨ k = 125 ∨ k = 126 ∨ k = 127 ∨ k = 128 ∨ k = 129 ∨ k = 130 ∨ k = 131 ∨ k = 132 ∨ k = 133 ∨ k = 134 ∨ k = 135 ∨ k = 136 by omega) with rfl | rfl | rfl | rfl | rfl | rfl | rfl | rfl | rfl | rfl | rfl | rfl | rfl | rfl | rfl | rfl | rfl | rfl | rfl | rfl | rfl | rfl | rfl | rfl | rfl | rfl | rfl | rfl | rfl | rfl | rfl
  · rw [sC_106]
    refine z_obj (h 62 _ rfl) ?_
    unfold zFl
    simp only [List.mapIdx_cons, List.mapIdx_nil, zFv]
    rfl
  · rw [sC_107]; exact h 63 _ rfl
  · rw [sC_108]; exact h 64 _ rfl
  · rw [sC_109]; exact h 65 _ rfl
  · rw [sC_110]; exact h 66 _ rfl
  · rw [sC_111]
    refine z_row (h 67 _ rfl) (fun i hi => ?_)
    rcases (show i = 0 ∨ i = 1 ∨ i = 2 ∨ i = 3 ∨ i = 4 ∨ i = 5 by omega) with rfl | rfl | rfl | rfl | rfl | rfl <;> rfl
  · rw [sC_112]; exact h 68 _ rfl
  · rw [sC_113]; exact h 69 _ rfl
  · rw [sC_114]; exact h 70 _ rfl
  · rw [sC_115]; exact h 71 _ rfl
  · rw [sC_116]; exact h 72 _ rfl
  · rw [sC_117]; exact h 73 _ rfl
  · rw [sC_118]; exact h 74 _ rfl
  · rw [sC_119]; exact h 75 _ rfl
  · rw [sC_120]; exact h 76 _ rfl
  · rw [sC_121]
    refine z_obj (h 77 _ rfl) ?_
    unfold zFl
    simp only [List.mapIdx_cons, List.mapIdx_nil, zFv]
    rfl
  · rw [sC_122]; exact h 78 _ rfl
  · rw [sC_123]; exact h 79 _ rfl
  · rw [sC_124]; exact h 80 _ rfl
  · rw [sC_125]; exact h 81 _ rfl
  · rw [sC_126]
    refine z_row (h 82 _ rfl) (fun i hi => ?_)
    rcases (show i = 0 ∨ i = 1 ∨ i = 2 ∨ i = 3 ∨ i = 4 ∨ i = 5 by omega) with rfl | rfl | rfl | rfl | rfl | rfl <;> rfl
  · rw [sC_127]; exact h 83 _ rfl
  · rw [sC_128]; exact h 84 _ rfl
  · rw [sC_129]; exact h 85 _ rfl
  · rw [sC_130]; exact h 86 _ rfl
  · rw [sC_131]; exact h 87 _ rfl
  · rw [sC_132]; exact h 88 _ rfl
  · rw [sC_133]; exact h 89 _ rfl
  · rw [sC_134]; exact h 90 _ rfl
  · rw [sC_135]; exact h 91 _ rfl
  · rw [sC_136]
    refine z_obj (h 92 _ rfl) ?_
    unfold zFl
    simp only [List.mapIdx_cons, List.mapIdx_nil, zFv]
    rfl
set_option maxHeartbeats 1000000 in
set_option maxRecDepth 100000 in
theorem rb_137 {D : va_G} {cy : Nat → ClassId} {q : Nat → Nat} {H : Heap} (h : va_P D vwCl (bX7 cy (q 4) (fun i => q (44 + i))) H) : ∀ k, 137 ≤ k → k < 166 → va_at D vwCl (q k, zCell cy q sNew k (zsh k)) H := by
  intro k h1 h2
  rcases (show k = 137 ∨ k = 138 ∨ k = 139 ∨ k = 140 ∨ k = 141 ∨ k = 142 ∨ k = 143 ∨ k = 144 ∨ k = 145 ∨ k = 146 ∨ k = 147 ∨ k = 148 ∨ k = 149 ∨ k = 150 ∨ k = 151 ∨ k = 152 ∨ k = 153 ∨ k = 154 ∨ k = 155 ∨ k = 156 ∨ k = 157 ∨ k = 158 ∨ k = 159 ∨ k = 160 ∨ k = 161 ∨ k = 162 ∨ k = 163 ∨ k = 164 ∨ k = 165 by omega) with rfl | rfl | rfl | rfl | rfl | rfl | rfl | rfl | rfl | rfl | rfl | rfl | rfl | rfl | rfl | rfl | rfl | rfl | rfl | rfl | rfl | rfl | rfl | rfl | rfl | rfl | rfl | rfl | rfl
  · rw [sC_137]; exact h 93 _ rfl
  · rw [sC_138]; exact h 94 _ rfl
  · rw [sC_139]; exact h 95 _ rfl
  · rw [sC_140]; exact h 96 _ rfl
  · rw [sC_141]
    refine z_row (h 97 _ rfl) (fun i hi => ?_)
    rcases (show i = 0 ∨ i = 1 ∨ i = 2 ∨ i = 3 ∨ i = 4 ∨ i = 5 by omega) with rfl | rfl | rfl | rfl | rfl | rfl <;> rfl
  · rw [sC_142]; exact h 98 _ rfl
  · rw [sC_143]; exact h 99 _ rfl
  · rw [sC_144]; exact h 100 _ rfl
  · rw [sC_145]; exact h 101 _ rfl
  · rw [sC_146]; exact h 102 _ rfl
  · rw [sC_147]; exact h 103 _ rfl
  · rw [sC_148]; exact h 104 _ rfl
  · rw [sC_149]; exact h 105 _ rfl
  · rw [sC_150]; exact h 106 _ rfl
  · rw [sC_151]
    refine z_obj (h 107 _ rfl) ?_
    unfold zFl
    simp only [List.mapIdx_cons, List.mapIdx_nil, zFv]
    rfl
  · rw [sC_152]; exact h 108 _ rfl
  · rw [sC_153]; exact h 109 _ rfl
  · rw [sC_154]; exact h 110 _ rfl
  · rw [sC_155]; exact h 111 _ rfl
  · rw [sC_156]
    refine z_row (h 112 _ rfl) (fun i hi => ?_)
    rcases (show i = 0 ∨ i = 1 ∨ i = 2 ∨ i = 3 ∨ i = 4 ∨ i = 5 by omega) with rfl | rfl | rfl | rfl | rfl | rfl <;> rfl
  · rw [sC_157]; exact h 113 _ rfl
  · rw [sC_158]; exact h 114 _ rfl
  · rw [sC_159]; exact h 115 _ rfl
  · rw [sC_160]; exact h 116 _ rfl
  · rw [sC_161]; exact h 117 _ rfl
  · rw [sC_162]; exact h 118 _ rfl
  · rw [sC_163]; exact h 119 _ rfl
  · rw [sC_164]; exact h 120 _ rfl
  · rw [sC_165]; exact h 121 _ rfl
set_option maxHeartbeats 1000000 in
set_option maxRecDepth 100000 in
theorem rb_167 {D : va_G} {cy : Nat → ClassId} {q : Nat → Nat} {H : Heap} (h : va_P D vwCl (bX5 cy (fun i => q (167 + i))) H) : ∀ k, 167 ≤ k → k < 198 → va_at D vwCl (q k, zCell cy q sNew k (zsh k)) H := by
  intro k h1 h2
  rcases (show k = 167 ∨ k = 168 ∨ k = 169 ∨ k = 170 ∨ k = 171 ∨ k = 172 ∨ k = 173 ∨ k = 174 ∨ k = 175 ∨ k = 176 ∨ k = 177 ∨ k = 178 ∨ k = 179 ∨ k = 180 ∨ k = 181 ∨ k = 182 ∨ k = 183 ∨ k = 184 ∨ k = 185 ∨ k = 186 ∨ k = 187 ∨ k = 188 ∨ k = 189 ∨ k = 190 ∨ k = 191 ∨ k = 192 ∨ k = 193 ∨ k = 194 ∨ k = 195 ∨ k = 196 ∨ k = 197 by omega) with rfl | rfl | rfl | rfl | rfl | rfl | rfl | rfl | rfl | rfl | rfl | rfl | rfl | rfl | rfl | rfl | rfl | rfl | rfl | rfl | rfl | rfl | rfl | rfl | rfl | rfl | rfl | rfl | rfl | rfl | rfl
  · rw [sC_167]
    refine z_obj (h 0 _ rfl) ?_
    unfold zFl
    simp only [List.mapIdx_cons, List.mapIdx_nil, zFv]
    rfl
  · rw [sC_168]
    refine z_obj (h 1 _ rfl) ?_
    unfold zFl
    simp only [List.mapIdx_cons, List.mapIdx_nil, zFv]
    rfl
  · rw [sC_169]; exact h 2 _ rfl
  · rw [sC_170]; exact h 3 _ rfl
  · rw [sC_171]; exact h 4 _ rfl
  · rw [sC_172]; exact h 5 _ rfl
  · rw [sC_173]; exact h 6 _ rfl
  · rw [sC_174]; exact h 7 _ rfl
  · rw [sC_175]; exact h 8 _ rfl
  · rw [sC_176]; exact h 9 _ rfl
  · rw [sC_177]; exact h 10 _ rfl
  · rw [sC_178]
    refine z_obj (h 11 _ rfl) ?_
    unfold zFl
    simp only [List.mapIdx_cons, List.mapIdx_nil, zFv]
    rfl
  · rw [sC_179]; exact h 12 _ rfl
  · rw [sC_180]; exact h 13 _ rfl
  · rw [sC_181]; exact h 14 _ rfl
  · rw [sC_182]; exact h 15 _ rfl
  · rw [sC_183]
    refine z_row (h 16 _ rfl) (fun i hi => ?_)
    rcases (show i = 0 ∨ i = 1 ∨ i = 2 ∨ i = 3 ∨ i = 4 ∨ i = 5 by omega) with rfl | rfl | rfl | rfl | rfl | rfl <;> rfl
  · rw [sC_184]; exact h 17 _ rfl
  · rw [sC_185]; exact h 18 _ rfl
  · rw [sC_186]; exact h 19 _ rfl
  · rw [sC_187]; exact h 20 _ rfl
  · rw [sC_188]; exact h 21 _ rfl
  · rw [sC_189]; exact h 22 _ rfl
  · rw [sC_190]; exact h 23 _ rfl
  · rw [sC_191]; exact h 24 _ rfl
  · rw [sC_192]; exact h 25 _ rfl
  · rw [sC_193]
    refine z_obj (h 26 _ rfl) ?_
    unfold zFl
    simp only [List.mapIdx_cons, List.mapIdx_nil, zFv]
    rfl
  · rw [sC_194]; exact h 27 _ rfl
  · rw [sC_195]; exact h 28 _ rfl
  · rw [sC_196]; exact h 29 _ rfl
  · rw [sC_197]; exact h 30 _ rfl
set_option maxHeartbeats 1000000 in
set_option maxRecDepth 100000 in
theorem rb_198 {D : va_G} {cy : Nat → ClassId} {q : Nat → Nat} {H : Heap} (h : va_P D vwCl (bX5 cy (fun i => q (198 + i))) H) : ∀ k, 198 ≤ k → k < 229 → va_at D vwCl (q k, zCell cy q sNew k (zsh k)) H := by
  intro k h1 h2
  rcases (show k = 198 ∨ k = 199 ∨ k = 200 ∨ k = 201 ∨ k = 202 ∨ k = 203 ∨ k = 204 ∨ k = 205 ∨ k = 206 ∨ k = 207 ∨ k = 208 ∨ k = 209 ∨ k = 210 ∨ k = 211 ∨ k = 212 ∨ k = 213 ∨ k = 214 ∨ k = 215 ∨ k = 216 ∨ k = 217 ∨ k = 218 ∨ k = 219 ∨ k = 220 ∨ k = 221 ∨ k = 222 ∨ k = 223 ∨ k = 224 ∨ k = 225 ∨ k = 226 ∨ k = 227 ∨ k = 228 by omega) with rfl | rfl | rfl | rfl | rfl | rfl | rfl | rfl | rfl | rfl | rfl | rfl | rfl | rfl | rfl | rfl | rfl | rfl | rfl | rfl | rfl | rfl | rfl | rfl | rfl | rfl | rfl | rfl | rfl | rfl | rfl
  · rw [sC_198]
    refine z_obj (h 0 _ rfl) ?_
    unfold zFl
    simp only [List.mapIdx_cons, List.mapIdx_nil, zFv]
    rfl
  · rw [sC_199]
    refine z_obj (h 1 _ rfl) ?_
    unfold zFl
    simp only [List.mapIdx_cons, List.mapIdx_nil, zFv]
    rfl
  · rw [sC_200]; exact h 2 _ rfl
  · rw [sC_201]; exact h 3 _ rfl
  · rw [sC_202]; exact h 4 _ rfl
  · rw [sC_203]; exact h 5 _ rfl
  · rw [sC_204]; exact h 6 _ rfl
  · rw [sC_205]; exact h 7 _ rfl
  · rw [sC_206]; exact h 8 _ rfl
  · rw [sC_207]; exact h 9 _ rfl
  · rw [sC_208]; exact h 10 _ rfl
  · rw [sC_209]
    refine z_obj (h 11 _ rfl) ?_
    unfold zFl
    simp only [List.mapIdx_cons, List.mapIdx_nil, zFv]
    rfl
  · rw [sC_210]; exact h 12 _ rfl
  · rw [sC_211]; exact h 13 _ rfl
  · rw [sC_212]; exact h 14 _ rfl
  · rw [sC_213]; exact h 15 _ rfl
  · rw [sC_214]
    refine z_row (h 16 _ rfl) (fun i hi => ?_)
    rcases (show i = 0 ∨ i = 1 ∨ i = 2 ∨ i = 3 ∨ i = 4 ∨ i = 5 by omega) with rfl | rfl | rfl | rfl | rfl | rfl <;> rfl
  · rw [sC_215]; exact h 17 _ rfl
  · rw [sC_216]; exact h 18 _ rfl
  · rw [sC_217]; exact h 19 _ rfl
  · rw [sC_218]; exact h 20 _ rfl
  · rw [sC_219]; exact h 21 _ rfl
  · rw [sC_220]; exact h 22 _ rfl
  · rw [sC_221]; exact h 23 _ rfl
  · rw [sC_222]; exact h 24 _ rfl
  · rw [sC_223]; exact h 25 _ rfl
  · rw [sC_224]
    refine z_obj (h 26 _ rfl) ?_
    unfold zFl
    simp only [List.mapIdx_cons, List.mapIdx_nil, zFv]
    rfl
  · rw [sC_225]; exact h 27 _ rfl
  · rw [sC_226]; exact h 28 _ rfl
  · rw [sC_227]; exact h 29 _ rfl
  · rw [sC_228]; exact h 30 _ rfl
set_option maxHeartbeats 1000000 in
set_option maxRecDepth 100000 in
theorem rb_229 {D : va_G} {cy : Nat → ClassId} {q : Nat → Nat} {H : Heap} (h : va_P D vwCl (bX4 cy (q 1) (fun i => q (229 + i))) H) : ∀ k, 229 ≤ k → k < 240 → va_at D vwCl (q k, zCell cy q sNew k (zsh k)) H := by
  intro k h1 h2
  rcases (show k = 229 ∨ k = 230 ∨ k = 231 ∨ k = 232 ∨ k = 233 ∨ k = 234 ∨ k = 235 ∨ k = 236 ∨ k = 237 ∨ k = 238 ∨ k = 239 by omega) with rfl | rfl | rfl | rfl | rfl | rfl | rfl | rfl | rfl | rfl | rfl
  · rw [sC_229]
    refine z_obj (h 0 _ rfl) ?_
    unfold zFl
    simp only [List.mapIdx_cons, List.mapIdx_nil, zFv]
    rfl
  · rw [sC_230]
    refine z_obj (h 1 _ rfl) ?_
    unfold zFl
    simp only [List.mapIdx_cons, List.mapIdx_nil, zFv]
    rfl
  · rw [sC_231]; exact h 2 _ rfl
  · rw [sC_232]; exact h 3 _ rfl
  · rw [sC_233]; exact h 4 _ rfl
  · rw [sC_234]; exact h 5 _ rfl
  · rw [sC_235]; exact h 6 _ rfl
  · rw [sC_236]; exact h 7 _ rfl
  · rw [sC_237]; exact h 8 _ rfl
  · rw [sC_238]; exact h 9 _ rfl
  · rw [sC_239]; exact h 10 _ rfl
set_option maxHeartbeats 1000000 in
set_option maxRecDepth 100000 in
theorem rb_240 {D : va_G} {cy : Nat → ClassId} {q : Nat → Nat} {H : Heap} (h : va_P D vwCl (bX0 cy (q 1) (q 4) (fun i => q (240 + i))) H) : ∀ k, 240 ≤ k → k < 245 → va_at D vwCl (q k, zCell cy q sNew k (zsh k)) H := by
  intro k h1 h2
  rcases (show k = 240 ∨ k = 241 ∨ k = 242 ∨ k = 243 ∨ k = 244 by omega) with rfl | rfl | rfl | rfl | rfl
  · rw [sC_240]
    refine z_obj (h 0 _ rfl) ?_
    unfold zFl
    simp only [List.mapIdx_cons, List.mapIdx_nil, zFv]
    rfl
  · rw [sC_241]; exact h 1 _ rfl
  · rw [sC_242]; exact h 2 _ rfl
  · rw [sC_243]; exact h 3 _ rfl
  · rw [sC_244]; exact h 4 _ rfl
set_option maxHeartbeats 1000000 in
set_option maxRecDepth 100000 in
theorem rb_245 {D : va_G} {cy : Nat → ClassId} {q : Nat → Nat} {H : Heap} (h : va_P D vwCl (bX8 cy (fun i => q (245 + i))) H) : ∀ k, 245 ≤ k → k < 250 → va_at D vwCl (q k, zCell cy q sNew k (zsh k)) H := by
  intro k h1 h2
  rcases (show k = 245 ∨ k = 246 ∨ k = 247 ∨ k = 248 ∨ k = 249 by omega) with rfl | rfl | rfl | rfl | rfl
  · rw [sC_245]
    refine z_obj (h 0 _ rfl) ?_
    unfold zFl
    simp only [List.mapIdx_cons, List.mapIdx_nil, zFv]
    rfl
  · rw [sC_246]; exact h 1 _ rfl
  · rw [sC_247]; exact h 2 _ rfl
  · rw [sC_248]; exact h 3 _ rfl
  · rw [sC_249]; exact h 4 _ rfl
set_option maxHeartbeats 1000000 in
set_option maxRecDepth 100000 in
theorem rb_250 {D : va_G} {cy : Nat → ClassId} {q : Nat → Nat} {H : Heap} (h : va_P D vwCl (bX8 cy (fun i => q (250 + i))) H) : ∀ k, 250 ≤ k → k < 255 → va_at D vwCl (q k, zCell cy q sNew k (zsh k)) H := by
  intro k h1 h2
  rcases (show k = 250 ∨ k = 251 ∨ k = 252 ∨ k = 253 ∨ k = 254 by omega) with rfl | rfl | rfl | rfl | rfl
  · rw [sC_250]
    refine z_obj (h 0 _ rfl) ?_
    unfold zFl
    simp only [List.mapIdx_cons, List.mapIdx_nil, zFv]
    rfl
  · rw [sC_251]; exact h 1 _ rfl
  · rw [sC_252]; exact h 2 _ rfl
  · rw [sC_253]; exact h 3 _ rfl
  · rw [sC_254]; exact h 4 _ rfl
set_option maxHeartbeats 1000000 in
set_option maxRecDepth 100000 in
theorem rb_255 {D : va_G} {cy : Nat → ClassId} {q : Nat → Nat} {H : Heap} (h : va_P D vwCl (bX2 cy (q 4) (q 14) (fun i => q (255 + i))) H) : ∀ k, 255 ≤ k → k < 256 → va_at D vwCl (q k, zCell cy q sNew k (zsh k)) H := by
  intro k h1 h2
  have e : k = 255 := by omega
  subst e
  rw [sC_255]
  refine z_obj (h 0 _ rfl) ?_
  unfold zFl
  simp only [List.mapIdx_cons, List.mapIdx_nil, zFv]
  rfl
set_option maxHeartbeats 1000000 in
set_option maxRecDepth 100000 in
theorem rb_256 {D : va_G} {cy : Nat → ClassId} {q : Nat → Nat} {H : Heap} (h : va_P D vwCl (bX10 cy (fun i => q (256 + i))) H) : ∀ k, 256 ≤ k → k < 261 → va_at D vwCl (q k, zCell cy q sNew k (zsh k)) H := by
  intro k h1 h2
  rcases (show k = 256 ∨ k = 257 ∨ k = 258 ∨ k = 259 ∨ k = 260 by omega) with rfl | rfl | rfl | rfl | rfl
  · rw [sC_256]
    refine z_obj (h 0 _ rfl) ?_
    unfold zFl
    simp only [List.mapIdx_cons, List.mapIdx_nil, zFv]
    rfl
  · rw [sC_257]; exact h 1 _ rfl
  · rw [sC_258]; exact h 2 _ rfl
  · rw [sC_259]; exact h 3 _ rfl
  · rw [sC_260]; exact h 4 _ rfl
set_option maxHeartbeats 1000000 in
set_option maxRecDepth 100000 in
theorem rb_261 {D : va_G} {cy : Nat → ClassId} {q : Nat → Nat} {H : Heap} (h : va_P D vwCl (bX1 cy (fun i => q (261 + i))) H) : ∀ k, 261 ≤ k → k < 262 → va_at D vwCl (q k, zCell cy q sNew k (zsh k)) H := by
  intro k h1 h2
  have e : k = 261 := by omega
  subst e
  rw [sC_261]
  refine z_obj (h 0 _ rfl) ?_
  unfold zFl
  simp only [List.mapIdx_cons, List.mapIdx_nil, zFv]
  rfl
set_option maxHeartbeats 1000000 in
set_option maxRecDepth 100000 in
theorem gWm_zW {D : va_G} {cy : Nat → ClassId} {q : Nat → Nat} {H : Heap} (hP : va_P D vwCl (gWm cy q) H) : va_P D vwCl (zW zsh 262 cy q sNew) H ∧ va_P D vwCl (bJ4 cy 16 0 0 (fun _ => 0) (fun i => q (262 + i))) H := by
  have h0 := hP 0 _ rfl
  have h166 := hP 1 _ rfl
  have hP : va_P D vwCl (((((((((((((((bX9 cy (fun i => q (1 + i))) ++ bX3 cy (fun i => q (4 + i))) ++ bX6 cy (q 4) (fun i => q (14 + i))) ++ bX6 cy (q 4) (fun i => q (29 + i))) ++ bX7 cy (q 4) (fun i => q (44 + i))) ++ bX5 cy (fun i => q (167 + i))) ++ bX5 cy (fun i => q (198 + i))) ++ bX4 cy (q 1) (fun i => q (229 + i))) ++ bX0 cy (q 1) (q 4) (fun i => q (240 + i))) ++ bX8 cy (fun i => q (245 + i))) ++ bX8 cy (fun i => q (250 + i))) ++ bX2 cy (q 4) (q 14) (fun i => q (255 + i))) ++ bX10 cy (fun i => q (256 + i))) ++ bX1 cy (fun i => q (261 + i))) ++ bJ4 cy 16 0 0 (fun _ => 0) (fun i => q (262 + i))) H := z_two hP
  obtain ⟨hP, g262⟩ := z_app hP
  obtain ⟨hP, g261⟩ := z_app hP
  obtain ⟨hP, g256⟩ := z_app hP
  obtain ⟨hP, g255⟩ := z_app hP
  obtain ⟨hP, g250⟩ := z_app hP
  obtain ⟨hP, g245⟩ := z_app hP
  obtain ⟨hP, g240⟩ := z_app hP
  obtain ⟨hP, g229⟩ := z_app hP
  obtain ⟨hP, g198⟩ := z_app hP
  obtain ⟨hP, g167⟩ := z_app hP
  obtain ⟨hP, g44⟩ := z_app hP
  obtain ⟨hP, g29⟩ := z_app hP
  obtain ⟨hP, g14⟩ := z_app hP
  obtain ⟨hP, g4⟩ := z_app hP
  have g1 := hP
  refine ⟨?_, g262⟩
  intro k x hx
  have hk : k < 262 := by have := (List.getElem?_eq_some_iff.mp hx).1; simpa [zW] using this
  rw [zW_at hk rfl] at hx
  cases hx
  show va_at D vwCl (q k, zCell cy q sNew k (zsh k)) H
  rcases Nat.lt_or_ge k 1 with h | h
  · have e : k = 0 := by omega
    subst e
    rw [sC_0]
    refine z_obj (h0) ?_
    unfold zFl
    simp only [List.mapIdx_cons, List.mapIdx_nil, zFv]
    rfl
  rcases Nat.lt_or_ge k 4 with h | h
  · exact rb_1 g1 k (by omega) (by omega)
  rcases Nat.lt_or_ge k 14 with h | h
  · exact rb_4 g4 k (by omega) (by omega)
  rcases Nat.lt_or_ge k 29 with h | h
  · exact rb_14 g14 k (by omega) (by omega)
  rcases Nat.lt_or_ge k 44 with h | h
  · exact rb_29 g29 k (by omega) (by omega)
  rcases Nat.lt_or_ge k 75 with h | h
  · exact rb_44 g44 k (by omega) (by omega)
  rcases Nat.lt_or_ge k 106 with h | h
  · exact rb_75 g44 k (by omega) (by omega)
  rcases Nat.lt_or_ge k 137 with h | h
  · exact rb_106 g44 k (by omega) (by omega)
  rcases Nat.lt_or_ge k 166 with h | h
  · exact rb_137 g44 k (by omega) (by omega)
  rcases Nat.lt_or_ge k 167 with h | h
  · have e : k = 166 := by omega
    subst e
    rw [sC_166]
    refine z_row (h166) (fun i hi => ?_)
    rcases (show i = 0 ∨ i = 1 by omega) with rfl | rfl <;> rfl
  rcases Nat.lt_or_ge k 198 with h | h
  · exact rb_167 g167 k (by omega) (by omega)
  rcases Nat.lt_or_ge k 229 with h | h
  · exact rb_198 g198 k (by omega) (by omega)
  rcases Nat.lt_or_ge k 240 with h | h
  · exact rb_229 g229 k (by omega) (by omega)
  rcases Nat.lt_or_ge k 245 with h | h
  · exact rb_240 g240 k (by omega) (by omega)
  rcases Nat.lt_or_ge k 250 with h | h
  · exact rb_245 g245 k (by omega) (by omega)
  rcases Nat.lt_or_ge k 255 with h | h
  · exact rb_250 g250 k (by omega) (by omega)
  rcases Nat.lt_or_ge k 256 with h | h
  · exact rb_255 g255 k (by omega) (by omega)
  rcases Nat.lt_or_ge k 261 with h | h
  · exact rb_256 g256 k (by omega) (by omega)
  exact rb_261 g261 k (by omega) (by omega)
def zPo (k : Nat) : Nat := cond (Nat.beq k 0) 0 (cond (Nat.beq k 1) 166 (cond (Nat.blt k 167) (k - 1) k))
theorem fstX9 {cy : Nat → ClassId} {u : Nat → Nat} : (bX9 cy u).map Prod.fst = [u 0, u 1, u 2] := rfl
theorem fstX3 {cy : Nat → ClassId} {u : Nat → Nat} : (bX3 cy u).map Prod.fst = [u 0, u 1, u 2, u 3, u 4, u 5, u 6, u 7, u 8, u 9] := rfl
theorem fstX6 {cy : Nat → ClassId} {h : Nat} {u : Nat → Nat} : (bX6 cy h u).map Prod.fst = [u 0, u 1, u 2, u 3, u 4, u 5, u 6, u 7, u 8, u 9, u 10, u 11, u 12, u 13, u 14] := rfl
theorem fstX8 {cy : Nat → ClassId} {u : Nat → Nat} : (bX8 cy u).map Prod.fst = [u 0, u 1, u 2, u 3, u 4] := rfl
theorem fstX10 {cy : Nat → ClassId} {u : Nat → Nat} : (bX10 cy u).map Prod.fst = [u 0, u 1, u 2, u 3, u 4] := rfl
theorem fstX1 {cy : Nat → ClassId} {u : Nat → Nat} : (bX1 cy u).map Prod.fst = [u 0] := rfl
theorem fstX0 {cy : Nat → ClassId} {t h : Nat} {u : Nat → Nat} : (bX0 cy t h u).map Prod.fst = [u 0, u 1, u 2, u 3, u 4] := rfl
theorem fstX2 {cy : Nat → ClassId} {h lf : Nat} {u : Nat → Nat} : (bX2 cy h lf u).map Prod.fst = [u 0] := rfl
theorem fstJ4 {cy : Nat → ClassId} {cap : Nat} {cnt ml : Int32} {g : Nat → Int32} {u : Nat → Nat} : (bJ4 cy cap cnt ml g u).map Prod.fst = [u 0, u 1] := rfl
set_option maxHeartbeats 1000000 in
set_option maxRecDepth 100000 in
theorem gWm_fst (cy : Nat → ClassId) (q : Nat → Nat) : (gWm cy q).map Prod.fst = [q 0, q 166, q 1, q 2, q 3, q 4, q 5, q 6, q 7, q 8, q 9, q 10, q 11, q 12, q 13, q 14, q 15, q 16, q 17, q 18, q 19, q 20, q 21, q 22, q 23, q 24, q 25, q 26, q 27, q 28, q 29, q 30, q 31, q 32, q 33, q 34, q 35, q 36, q 37, q 38, q 39, q 40, q 41, q 42, q 43, q 44, q 45, q 46, q 47, q 48, q 49, q 50, q 51, q 52, q 53, q 54, q 55, q 56, q 57, q 58, q 59, q 60, q 61, q 62, q 63, q 64, q 65, q 66, q 67, q 68, q 69, q 70, q 71, q 72, q 73, q 74, q 75, q 76, q 77, q 78, q 79, q 80, q 81, q 82, q 83, q 84, q 85, q 86, q 87, q 88, q 89, q 90, q 91, q 92, q 93, q 94, q 95, q 96, q 97, q 98, q 99, q 100, q 101, q 102, q 103, q 104, q 105, q 106, q 107, q 108, q 109, q 110, q 111, q 112, q 113, q 114, q 115, q 116, q 117, q 118, q 119, q 120, q 121, q 122, q 123, q 124, q 125, q 126, q 127, q 128, q 129, q 130, q 131, q 132, q 133, q 134, q 135, q 136, q 137, q 138, q 139, q 140, q 141, q 142, q 143, q 144, q 145, q 146, q 147, q 148, q 149, q 150, q 151, q 152, q 153, q 154, q 155, q 156, q 157, q 158, q 159, q 160, q 161, q 162, q 163, q 164, q 165, q 167, q 168, q 169, q 170, q 171, q 172, q 173, q 174, q 175, q 176, q 177, q 178, q 179, q 180, q 181, q 182, q 183, q 184, q 185, q 186, q 187, q 188, q 189, q 190, q 191, q 192, q 193, q 194, q 195, q 196, q 197, q 198, q 199, q 200, q 201, q 202, q 203, q 204, q 205, q 206, q 207, q 208, q 209, q 210, q 211, q 212, q 213, q 214, q 215, q 216, q 217, q 218, q 219, q 220, q 221, q 222, q 223, q 224, q 225, q 226, q 227, q 228, q 229, q 230, q 231, q 232, q 233, q 234, q 235, q 236, q 237, q 238, q 239, q 240, q 241, q 242, q 243, q 244, q 245, q 246, q 247, q 248, q 249, q 250, q 251, q 252, q 253, q 254, q 255, q 256, q 257, q 258, q 259, q 260, q 261, q 262, q 263] := by
  unfold gWm bX7 bX5 bX4
  simp only [List.map_cons, List.map_append, fstX9, fstX3, fstX6, fstX8, fstX10, fstX1, fstX0, fstX2, fstJ4, List.cons_append, List.nil_append, List.append_assoc]
set_option maxRecDepth 100000 in
theorem gWm_at (q : Nat → Nat) : ∀ k, k < 264 → [q 0, q 166, q 1, q 2, q 3, q 4, q 5, q 6, q 7, q 8, q 9, q 10, q 11, q 12, q 13, q 14, q 15, q 16, q 17, q 18, q 19, q 20, q 21, q 22, q 23, q 24, q 25, q 26, q 27, q 28, q 29, q 30, q 31, q 32, q 33, q 34, q 35, q 36, q 37, q 38, q 39, q 40, q 41, q 42, q 43, q 44, q 45, q 46, q 47, q 48, q 49, q 50, q 51, q 52, q 53, q 54, q 55, q 56, q 57, q 58, q 59, q 60, q 61, q 62, q 63, q 64, q 65, q 66, q 67, q 68, q 69, q 70, q 71, q 72, q 73, q 74, q 75, q 76, q 77, q 78, q 79, q 80, q 81, q 82, q 83, q 84, q 85, q 86, q 87, q 88, q 89, q 90, q 91, q 92, q 93, q 94, q 95, q 96, q 97, q 98, q 99, q 100, q 101, q 102, q 103, q 104, q 105, q 106, q 107, q 108, q 109, q 110, q 111, q 112, q 113, q 114, q 115, q 116, q 117, q 118, q 119, q 120, q 121, q 122, q 123, q 124, q 125, q 126, q 127, q 128, q 129, q 130, q 131, q 132, q 133, q 134, q 135, q 136, q 137, q 138, q 139, q 140, q 141, q 142, q 143, q 144, q 145, q 146, q 147, q 148, q 149, q 150, q 151, q 152, q 153, q 154, q 155, q 156, q 157, q 158, q 159, q 160, q 161, q 162, q 163, q 164, q 165, q 167, q 168, q 169, q 170, q 171, q 172, q 173, q 174, q 175, q 176, q 177, q 178, q 179, q 180, q 181, q 182, q 183, q 184, q 185, q 186, q 187, q 188, q 189, q 190, q 191, q 192, q 193, q 194, q 195, q 196, q 197, q 198, q 199, q 200, q 201, q 202, q 203, q 204, q 205, q 206, q 207, q 208, q 209, q 210, q 211, q 212, q 213, q 214, q 215, q 216, q 217, q 218, q 219, q 220, q 221, q 222, q 223, q 224, q 225, q 226, q 227, q 228, q 229, q 230, q 231, q 232, q 233, q 234, q 235, q 236, q 237, q 238, q 239, q 240, q 241, q 242, q 243, q 244, q 245, q 246, q 247, q 248, q 249, q 250, q 251, q 252, q 253, q 254, q 255, q 256, q 257, q 258, q 259, q 260, q 261, q 262, q 263][k]? = some (q (zPo k)) := by
  have e : [q 0, q 166, q 1, q 2, q 3, q 4, q 5, q 6, q 7, q 8, q 9, q 10, q 11, q 12, q 13, q 14, q 15, q 16, q 17, q 18, q 19, q 20, q 21, q 22, q 23, q 24, q 25, q 26, q 27, q 28, q 29, q 30, q 31, q 32, q 33, q 34, q 35, q 36, q 37, q 38, q 39, q 40, q 41, q 42, q 43, q 44, q 45, q 46, q 47, q 48, q 49, q 50, q 51, q 52, q 53, q 54, q 55, q 56, q 57, q 58, q 59, q 60, q 61, q 62, q 63, q 64, q 65, q 66, q 67, q 68, q 69, q 70, q 71, q 72, q 73, q 74, q 75, q 76, q 77, q 78, q 79, q 80, q 81, q 82, q 83, q 84, q 85, q 86, q 87, q 88, q 89, q 90, q 91, q 92, q 93, q 94, q 95, q 96, q 97, q 98, q 99, q 100, q 101, q 102, q 103, q 104, q 105, q 106, q 107, q 108, q 109, q 110, q 111, q 112, q 113, q 114, q 115, q 116, q 117, q 118, q 119, q 120, q 121, q 122, q 123, q 124, q 125, q 126, q 127, q 128, q 129, q 130, q 131, q 132, q 133, q 134, q 135, q 136, q 137, q 138, q 139, q 140, q 141, q 142, q 143, q 144, q 145, q 146, q 147, q 148, q 149, q 150, q 151, q 152, q 153, q 154, q 155, q 156, q 157, q 158, q 159, q 160, q 161, q 162, q 163, q 164, q 165, q 167, q 168, q 169, q 170, q 171, q 172, q 173, q 174, q 175, q 176, q 177, q 178, q 179, q 180, q 181, q 182, q 183, q 184, q 185, q 186, q 187, q 188, q 189, q 190, q 191, q 192, q 193, q 194, q 195, q 196, q 197, q 198, q 199, q 200, q 201, q 202, q 203, q 204, q 205, q 206, q 207, q 208, q 209, q 210, q 211, q 212, q 213, q 214, q 215, q 216, q 217, q 218, q 219, q 220, q 221, q 222, q 223, q 224, q 225, q 226, q 227, q 228, q 229, q 230, q 231, q 232, q 233, q 234, q 235, q 236, q 237, q 238, q 239, q 240, q 241, q 242, q 243, q 244, q 245, q 246, q 247, q 248, q 249, q 250, q 251, q 252, q 253, q 254, q 255, q 256, q 257, q 258, q 259, q 260, q 261, q 262, q 263] = [0, 166, 1, 2, 3, 4, 5, 6, 7, 8, 9, 10, 11, 12, 13, 14, 15, 16, 17, 18, 19, 20, 21, 22, 23, 24, 25, 26, 27, 28, 29, 30, 31, 32, 33, 34, 35, 36, 37, 38, 39, 40, 41, 42, 43, 44, 45, 46, 47, 48, 49, 50, 51, 52, 53, 54, 55, 56, 57, 58, 59, 60, 61, 62, 63, 64, 65, 66, 67, 68, 69, 70, 71, 72, 73, 74, 75, 76, 77, 78, 79, 80, 81, 82, 83, 84, 85, 86, 87, 88, 89, 90, 91, 92, 93, 94, 95, 96, 97, 98, 99, 100, 101, 102, 103, 104, 105, 106, 107, 108, 109, 110, 111, 112, 113, 114, 115, 116, 117, 118, 119, 120, 121, 122, 123, 124, 125, 126, 127, 128, 129, 130, 131, 132, 133, 134, 135, 136, 137, 138, 139, 140, 141, 142, 143, 144, 145, 146, 147, 148, 149, 150, 151, 152, 153, 154, 155, 156, 157, 158, 159, 160, 161, 162, 163, 164, 165, 167, 168, 169, 170, 171, 172, 173, 174, 175, 176, 177, 178, 179, 180, 181, 182, 183, 184, 185, 186, 187, 188, 189, 190, 191, 192, 193, 194, 195, 196, 197, 198, 199, 200, 201, 202, 203, 204, 205, 206, 207, 208, 209, 210, 211, 212, 213, 214, 215, 216, 217, 218, 219, 220, 221, 222, 223, 224, 225, 226, 227, 228, 229, 230, 231, 232, 233, 234, 235, 236, 237, 238, 239, 240, 241, 242, 243, 244, 245, 246, 247, 248, 249, 250, 251, 252, 253, 254, 255, 256, 257, 258, 259, 260, 261, 262, 263].map q := rfl
  rw [e]
  intro k hk
  have h2 : ∀ k, k < 264 → [0, 166, 1, 2, 3, 4, 5, 6, 7, 8, 9, 10, 11, 12, 13, 14, 15, 16, 17, 18, 19, 20, 21, 22, 23, 24, 25, 26, 27, 28, 29, 30, 31, 32, 33, 34, 35, 36, 37, 38, 39, 40, 41, 42, 43, 44, 45, 46, 47, 48, 49, 50, 51, 52, 53, 54, 55, 56, 57, 58, 59, 60, 61, 62, 63, 64, 65, 66, 67, 68, 69, 70, 71, 72, 73, 74, 75, 76, 77, 78, 79, 80, 81, 82, 83, 84, 85, 86, 87, 88, 89, 90, 91, 92, 93, 94, 95, 96, 97, 98, 99, 100, 101, 102, 103, 104, 105, 106, 107, 108, 109, 110, 111, 112, 113, 114, 115, 116, 117, 118, 119, 120, 121, 122, 123, 124, 125, 126, 127, 128, 129, 130, 131, 132, 133, 134, 135, 136, 137, 138, 139, 140, 141, 142, 143, 144, 145, 146, 147, 148, 149, 150, 151, 152, 153, 154, 155, 156, 157, 158, 159, 160, 161, 162, 163, 164, 165, 167, 168, 169, 170, 171, 172, 173, 174, 175, 176, 177, 178, 179, 180, 181, 182, 183, 184, 185, 186, 187, 188, 189, 190, 191, 192, 193, 194, 195, 196, 197, 198, 199, 200, 201, 202, 203, 204, 205, 206, 207, 208, 209, 210, 211, 212, 213, 214, 215, 216, 217, 218, 219, 220, 221, 222, 223, 224, 225, 226, 227, 228, 229, 230, 231, 232, 233, 234, 235, 236, 237, 238, 239, 240, 241, 242, 243, 244, 245, 246, 247, 248, 249, 250, 251, 252, 253, 254, 255, 256, 257, 258, 259, 260, 261, 262, 263][k]? = some (zPo k) := by decide +kernel
  rw [List.getElem?_map, h2 k hk]
  rfl
def zPi (k : Nat) : Nat := cond (Nat.beq k 0) 0 (cond (Nat.beq k 166) 1 (cond (Nat.blt k 166) (k + 1) k))
theorem zPi_lt : ∀ k, k < 264 → zPi k < 264 ∧ zPo (zPi k) = k := by decide +kernel
theorem gWm_zQ {A : Nat → Prop} {cy : Nat → ClassId} {q : Nat → Nat} (hD : va_D A (gWm cy q)) : zQ A q 264 := by
  have key : ∀ k, k < 264 → ∃ x : Nat × va_E, (gWm cy q)[zPi k]? = some x ∧ x.1 = q k := by
    intro k hk
    obtain ⟨h1, h2⟩ := zPi_lt k hk
    have e : ((gWm cy q).map Prod.fst)[zPi k]? = some (q k) := by
      rw [gWm_fst, gWm_at q _ h1, h2]
    rw [List.getElem?_map] at e
    cases hx : (gWm cy q)[zPi k]? with
    | none => rw [hx] at e; cases e
    | some x => rw [hx] at e; exact ⟨x, rfl, Option.some.inj e⟩
  refine ⟨fun i j hi hj e => ?_, fun k hk => ?_⟩
  · obtain ⟨x, hx, ex⟩ := key i hi
    obtain ⟨y, hy, ey⟩ := key j hj
    have := hD.1 _ _ x y hx hy (by rw [ex, ey, e])
    have h1 := (zPi_lt i hi).2
    rw [this, (zPi_lt j hj).2] at h1
    exact h1.symm
  · obtain ⟨x, hx, ex⟩ := key k hk
    rw [← ex]
    exact hD.2 _ x hx
theorem sNew_0 : sNew.1 1 1 = 0 ∧ (sNew.1 4 9 = 0 ∧ sNew.1 4 10 = 6 ∧ sNew.1 4 11 = 2) ∧ (∀ k, k < 4 → sNew.1 5 k = 0) ∧ (∀ l, l < 5 → sNew.1 6 l = 0) ∧ (sNew.1 14 1 = 0 ∧ sNew.1 14 2 = 0) ∧ (sNew.1 44 1 = 0 ∧ sNew.1 44 2 = 0) ∧ (sNew.1 167 3 = 0 ∧ sNew.1 198 3 = 0) ∧ (sNew.1 0 14 = 0 ∧ sNew.1 0 15 = -1 ∧ sNew.1 0 16 = -1) ∧ sNew.1 256 4 = 0 ∧ (sNew.1 255 2 = -1 ∧ sNew.1 255 3 = -1 ∧ sNew.1 255 4 = -1) ∧ (sNew.1 240 7 = -1 ∧ sNew.1 240 8 = -1 ∧ sNew.1 240 9 = -1 ∧ sNew.1 240 10 = -1) ∧ (sNew.1 245 4 = 0 ∧ sNew.1 245 5 = 0) := by decide
theorem RelT_new : RelT [] sNew tNew := by
  obtain ⟨h1, h2, h3, h4, h5, h6, h7, h8, h9, h10, h11, h12⟩ := sNew_0
  exact Rel_new h1 h2 h3 h4 h5 h6 h7 h8 h9 h10 h11 h12 kAt_fin tNew_0 tNew_2 tNew_164 (fun k h1 h2 => tNew_l k h2 h1) tNew_10
