/-! plant and act of the class: an answer, or a throw; printed by wip/gen/plant.py -/
theorem isP_bo {S : zSt} {a : Nat} {v x : Int32} (h : fX6_isProved S a v = some x) : x = 0 ∨ x = 1 := by
  unfold fX6_isProved at h
  obtain ⟨r, -, h⟩ := zBd_e h
  obtain ⟨r2, -, h⟩ := zBd_e h
  by_cases c : r2 < S.1 (zHs a) 11
  · replace h := zBr_t c h; exact Or.inl (Option.some.inj h).symm
  · replace h := zBr_f c h; exact Or.inr (Option.some.inj h).symm
theorem dX11_plant_0 : decode cX11_plant 0 = .ok (.aload_n 0, 1) := by decide +kernel
theorem dX11_plant_1 : decode cX11_plant 1 = .ok (.getfield 19, 3) := by decide +kernel
theorem dX11_plant_4 : decode cX11_plant 4 = .ok (.iconst 1, 1) := by decide +kernel
theorem dX11_plant_5 : decode cX11_plant 5 = .ok (.iload_n 1, 1) := by decide +kernel
theorem dX11_plant_6 : decode cX11_plant 6 = .ok (.invokevirtual 149, 3) := by decide +kernel
theorem dX11_plant_9 : decode cX11_plant 9 = .ok (.ifCond .ne 11, 3) := by decide +kernel
theorem dX11_plant_20 : decode cX11_plant 20 = .ok (.iload_n 2, 1) := by decide +kernel
theorem dX11_plant_21 : decode cX11_plant 21 = .ok (.tableswitch 126 0 7 #[47, 57, 67, 77, 87, 96, 108, 117], 47) := by decide +kernel
theorem dX11_plant_68 : decode cX11_plant 68 = .ok (.aload_n 0, 1) := by decide +kernel
theorem dX11_plant_69 : decode cX11_plant 69 = .ok (.getfield 28, 3) := by decide +kernel
theorem dX11_plant_72 : decode cX11_plant 72 = .ok (.getfield 156, 3) := by decide +kernel
theorem wd_243 : (Jvm.Cond.fieldLink "ParlourLeaves" (156 : Nat) "ParlourLeaves$Life" "at" "[I") ∈ zTB := List.mem_filter.mpr ⟨List.mem_append_right _ (List.mem_append_right _ (List.mem_append_left _ (List.mem_of_getElem? (i := 3) rfl))), rfl⟩
theorem lk_X11_156 : zLk RX11 156 7 9 := ⟨"ParlourLeaves$Life", RX6, TX6, 11, rfl, by decide, wsin_X6, wd_243, rfl⟩
theorem dX11_plant_75 : decode cX11_plant 75 = .ok (.iload_n 1, 1) := by decide +kernel
theorem dX11_plant_76 : decode cX11_plant 76 = .ok (.iaload, 1) := by decide +kernel
theorem dX11_plant_77 : decode cX11_plant 77 = .ok (.ireturn, 1) := by decide +kernel
theorem dX11_plant_78 : decode cX11_plant 78 = .ok (.aload_n 0, 1) := by decide +kernel
theorem dX11_plant_79 : decode cX11_plant 79 = .ok (.getfield 19, 3) := by decide +kernel
theorem dX11_plant_82 : decode cX11_plant 82 = .ok (.getfield 160, 3) := by decide +kernel
theorem wd_163 : (Jvm.Cond.fieldLink "ParlourLeaves" (160 : Nat) "ParlourLeaves$House" "slow" "[I") ∈ zTB := List.mem_filter.mpr ⟨List.mem_append_right _ (List.mem_append_left _ (List.mem_of_getElem? (i := 163) rfl)), rfl⟩
theorem lk_X11_160 : zLk RX11 160 4 3 := ⟨"ParlourLeaves$House", RX3, TX3, 12, rfl, by decide, wsin_X3, wd_163, rfl⟩
theorem dX11_plant_85 : decode cX11_plant 85 = .ok (.iload_n 1, 1) := by decide +kernel
theorem dX11_plant_86 : decode cX11_plant 86 = .ok (.iaload, 1) := by decide +kernel
theorem dX11_plant_87 : decode cX11_plant 87 = .ok (.ireturn, 1) := by decide +kernel
theorem dX11_plant_88 : decode cX11_plant 88 = .ok (.aload_n 0, 1) := by decide +kernel
theorem dX11_plant_89 : decode cX11_plant 89 = .ok (.getfield 19, 3) := by decide +kernel
theorem dX11_plant_92 : decode cX11_plant 92 = .ok (.getfield 163, 3) := by decide +kernel
theorem dX11_plant_95 : decode cX11_plant 95 = .ok (.iload_n 1, 1) := by decide +kernel
theorem dX11_plant_96 : decode cX11_plant 96 = .ok (.iaload, 1) := by decide +kernel
theorem dX11_plant_97 : decode cX11_plant 97 = .ok (.ireturn, 1) := by decide +kernel
theorem dX11_plant_98 : decode cX11_plant 98 = .ok (.aload_n 0, 1) := by decide +kernel
theorem dX11_plant_99 : decode cX11_plant 99 = .ok (.getfield 28, 3) := by decide +kernel
theorem dX11_plant_102 : decode cX11_plant 102 = .ok (.getfield 166, 3) := by decide +kernel
theorem wd_248 : (Jvm.Cond.fieldLink "ParlourLeaves" (166 : Nat) "ParlourLeaves$Life" "dust" "[I") ∈ zTB := List.mem_filter.mpr ⟨List.mem_append_right _ (List.mem_append_right _ (List.mem_append_left _ (List.mem_of_getElem? (i := 8) rfl))), rfl⟩
theorem lk_X11_166 : zLk RX11 166 7 10 := ⟨"ParlourLeaves$Life", RX6, TX6, 11, rfl, by decide, wsin_X6, wd_248, rfl⟩
theorem dX11_plant_105 : decode cX11_plant 105 = .ok (.iload_n 1, 1) := by decide +kernel
theorem dX11_plant_106 : decode cX11_plant 106 = .ok (.iaload, 1) := by decide +kernel
theorem dX11_plant_107 : decode cX11_plant 107 = .ok (.ireturn, 1) := by decide +kernel
theorem dX11_plant_108 : decode cX11_plant 108 = .ok (.aload_n 0, 1) := by decide +kernel
theorem dX11_plant_109 : decode cX11_plant 109 = .ok (.getfield 28, 3) := by decide +kernel
theorem dX11_plant_112 : decode cX11_plant 112 = .ok (.iload_n 1, 1) := by decide +kernel
theorem dX11_plant_113 : decode cX11_plant 113 = .ok (.invokevirtual 169, 3) := by decide +kernel
theorem dX11_plant_116 : decode cX11_plant 116 = .ok (.ireturn, 1) := by decide +kernel
theorem dX11_plant_117 : decode cX11_plant 117 = .ok (.aload_n 0, 1) := by decide +kernel
theorem dX11_plant_118 : decode cX11_plant 118 = .ok (.getfield 28, 3) := by decide +kernel
theorem dX11_plant_121 : decode cX11_plant 121 = .ok (.iload_n 1, 1) := by decide +kernel
theorem dX11_plant_122 : decode cX11_plant 122 = .ok (.invokevirtual 173, 3) := by decide +kernel
theorem dX11_plant_125 : decode cX11_plant 125 = .ok (.invokestatic 176, 3) := by decide +kernel
theorem dX11_plant_128 : decode cX11_plant 128 = .ok (.ireturn, 1) := by decide +kernel
theorem dX11_plant_129 : decode cX11_plant 129 = .ok (.aload_n 0, 1) := by decide +kernel
theorem dX11_plant_130 : decode cX11_plant 130 = .ok (.getfield 28, 3) := by decide +kernel
theorem dX11_plant_133 : decode cX11_plant 133 = .ok (.iload_n 1, 1) := by decide +kernel
theorem dX11_plant_134 : decode cX11_plant 134 = .ok (.invokevirtual 173, 3) := by decide +kernel
theorem dX11_plant_137 : decode cX11_plant 137 = .ok (.ireturn, 1) := by decide +kernel
theorem dX11_plant_138 : decode cX11_plant 138 = .ok (.aload_n 0, 1) := by decide +kernel
theorem dX11_plant_139 : decode cX11_plant 139 = .ok (.getfield 28, 3) := by decide +kernel
theorem dX11_plant_142 : decode cX11_plant 142 = .ok (.iload_n 1, 1) := by decide +kernel
theorem dX11_plant_143 : decode cX11_plant 143 = .ok (.invokevirtual 181, 3) := by decide +kernel
theorem wd_1445 : (Jvm.Cond.methodLink "ParlourLeaves" (181 : Nat) ({ cls := "ParlourLeaves$Life", name := "leavesDue", desc := "(I)I" } : Jvm.MethodName)) ∈ zTB := List.mem_filter.mpr ⟨List.mem_append_right _ (List.mem_append_right _ (List.mem_append_right _ (List.mem_append_right _ (List.mem_append_right _ (List.mem_append_right _ (List.mem_append_right _ (List.mem_append_left _ (List.mem_of_getElem? (i := 5) rfl)))))))), rfl⟩
theorem cv_X11_181 : zCV RX11 RX6 181 yX6_leavesDue cX6_leavesDue 4 (some .int) 1 := ⟨rfl, ⟨by decide, by decide, by decide +kernel⟩, wd_1445, wd_762, wd_763, wd_8, wd_764⟩
theorem dX11_plant_146 : decode cX11_plant 146 = .ok (.ireturn, 1) := by decide +kernel
abbrev rmX11_plant : Room := { frames := 2, cells := 0, slots := 0, locals := 42 }
set_option maxHeartbeats 1000000 in
set_option maxRecDepth 100000 in
theorem mX11_plant {l : Launch} {D : va_G} {cy : Nat → ClassId} {kK kV : Nat → Nat} {q : Nat → Nat} {S : zSt} {v1 v2 z : Int32} (h : pPlant S v1 v2 = some (some z))  : zMi l yX11_plant cX11_plant 3 (some .int) rmX11_plant [.ref (q 0), .int v1, .int v2] (zPr zsh zNC D cy q S) z := by
  refine Met.ofW (cc := cX11_plant) (maxL := 3) (ret := (some .int)) (by decide) rfl ?_
  intro p e s m args below meth c s₁ B hml hv
  obtain ⟨rfl, hC, hK⟩ := hv
  have cx : zX RX11 cX11_plant 3 p s m ([.ref (q 0), .int v1, .int v2]).toArray c D cy := ⟨B.exec, B.bytes, hml, findClass_of_methodNamed B.named, fun w hw => atoms_spec (ws := Cond.code yX11_plant cX11_plant 3 (some .int) :: zTB) B.pre w (List.mem_cons_of_mem _ hw), hK⟩
  have hx := cx.1
  have hb := cx.2.1
  have hr := B.returns
  have hlk := B.notSynchronized
  have hl := lv_entry ([.ref (q 0), .int v1, .int v2]) (n := 3) (Nat.le_of_ble_eq_true rfl)
  rw [lg_entry_eq]
  generalize (lg_sl ([.ref (q 0), .int v1, .int v2]) ++ List.replicate (3 - (lg_sl ([.ref (q 0), .int v1, .int v2])).length) Slot.unset).toArray = ls at hl ⊢
  have hl : lv_has ls 3 [(0, .ref (q 0)), (1, .int v1), (2, .int v2)] := hl
  unfold pPlant at h
  obtain ⟨r1, k1, h⟩ := zBd_e h
  refine lv_aload_n (pc := 0) hx hb dX11_plant_0 rfl (lv_at hl 0 rfl) ?_
  refine zr_getR (pc := 1) (t := 4) cx lk_X11_19 hC nC_0 sC_0 rfl dX11_plant_1 ?_
  refine lv_iconst (pc := 4) hx hb dX11_plant_4 zc_1 ?_
  refine lv_iload_n (pc := 5) hx hb dX11_plant_5 rfl (lv_at hl 1 rfl) ?_
  refine zr_VI (pc := 6) (rest := []) cx cv_X11_149 (mX3_has zHouse_4 k1) ⟨⟨rfl, rfl⟩, Nat.le_of_ble_eq_true rfl, Nat.le_of_ble_eq_true rfl⟩ ⟨Nat.le_of_ble_eq_true rfl, Nat.le_of_ble_eq_true rfl⟩ hC (nX3_0 zHouse_4) (sX3_0 zHouse_4) rfl hl.1 rfl rfl (Nat.le_of_ble_eq_true rfl) dX11_plant_6 ?_
  refine lv_if_ne (pc := 9) (tgt := 20) hx hb dX11_plant_9 (by decide) (fun c0 => ?_) (fun c0 => ?_)
  · replace h := zBr_f c0 h
    refine lv_iload_n (pc := 20) hx hb dX11_plant_20 rfl (lv_at hl 2 rfl) ?_
    by_cases w0 : v2 = 0
    · replace h := zBr_t w0 h
      refine lv_tableIn (pc := 21) (off := 47) (tgt := 68) hx hb dX11_plant_21 (by rw [w0]; decide) (by rw [w0]; decide) (by rw [w0]; rfl) (by decide) ?_
      refine lv_aload_n (pc := 68) hx hb dX11_plant_68 rfl (lv_at hl 0 rfl) ?_
      refine zr_getR (pc := 69) (t := 14) cx lk_X11_28 hC nC_0 sC_0 rfl dX11_plant_69 ?_
      refine zr_getR (pc := 72) (t := 27) cx lk_X11_156 hC nC_14 sC_14 rfl dX11_plant_72 ?_
      refine lv_iload_n (pc := 75) hx hb dX11_plant_75 rfl (lv_at hl 1 rfl) ?_
      obtain ⟨g1, h⟩ := zGd_e h
      refine zr_iald (pc := 76) cx hC nC_27 sC_27 g1 dX11_plant_76 ?_
      have hz := Option.some.inj (Option.some.inj h)
      exact zr_reI (pc := 77) cx hr hlk hz dX11_plant_77
    · replace h := zBr_f w0 h
      by_cases w1 : v2 = 1
      · replace h := zBr_t w1 h
        refine lv_tableIn (pc := 21) (off := 57) (tgt := 78) hx hb dX11_plant_21 (by rw [w1]; decide) (by rw [w1]; decide) (by rw [w1]; rfl) (by decide) ?_
        refine lv_aload_n (pc := 78) hx hb dX11_plant_78 rfl (lv_at hl 0 rfl) ?_
        refine zr_getR (pc := 79) (t := 4) cx lk_X11_19 hC nC_0 sC_0 rfl dX11_plant_79 ?_
        refine zr_getR (pc := 82) (t := 8) cx lk_X11_160 hC nC_4 sC_4 rfl dX11_plant_82 ?_
        refine lv_iload_n (pc := 85) hx hb dX11_plant_85 rfl (lv_at hl 1 rfl) ?_
        obtain ⟨g1, h⟩ := zGd_e h
        refine zr_iald (pc := 86) cx hC nC_8 sC_8 g1 dX11_plant_86 ?_
        have hz := Option.some.inj (Option.some.inj h)
        exact zr_reI (pc := 87) cx hr hlk hz dX11_plant_87
      · replace h := zBr_f w1 h
        by_cases w2 : v2 = 2
        · replace h := zBr_t w2 h
          refine lv_tableIn (pc := 21) (off := 67) (tgt := 88) hx hb dX11_plant_21 (by rw [w2]; decide) (by rw [w2]; decide) (by rw [w2]; rfl) (by decide) ?_
          refine lv_aload_n (pc := 88) hx hb dX11_plant_88 rfl (lv_at hl 0 rfl) ?_
          refine zr_getR (pc := 89) (t := 4) cx lk_X11_19 hC nC_0 sC_0 rfl dX11_plant_89 ?_
          refine zr_getR (pc := 92) (t := 9) cx lk_X11_163 hC nC_4 sC_4 rfl dX11_plant_92 ?_
          refine lv_iload_n (pc := 95) hx hb dX11_plant_95 rfl (lv_at hl 1 rfl) ?_
          obtain ⟨g1, h⟩ := zGd_e h
          refine zr_iald (pc := 96) cx hC nC_9 sC_9 g1 dX11_plant_96 ?_
          have hz := Option.some.inj (Option.some.inj h)
          exact zr_reI (pc := 97) cx hr hlk hz dX11_plant_97
        · replace h := zBr_f w2 h
          by_cases w3 : v2 = 3
          · replace h := zBr_t w3 h
            refine lv_tableIn (pc := 21) (off := 77) (tgt := 98) hx hb dX11_plant_21 (by rw [w3]; decide) (by rw [w3]; decide) (by rw [w3]; rfl) (by decide) ?_
            refine lv_aload_n (pc := 98) hx hb dX11_plant_98 rfl (lv_at hl 0 rfl) ?_
            refine zr_getR (pc := 99) (t := 14) cx lk_X11_28 hC nC_0 sC_0 rfl dX11_plant_99 ?_
            refine zr_getR (pc := 102) (t := 28) cx lk_X11_166 hC nC_14 sC_14 rfl dX11_plant_102 ?_
            refine lv_iload_n (pc := 105) hx hb dX11_plant_105 rfl (lv_at hl 1 rfl) ?_
            obtain ⟨g1, h⟩ := zGd_e h
            refine zr_iald (pc := 106) cx hC nC_28 sC_28 g1 dX11_plant_106 ?_
            have hz := Option.some.inj (Option.some.inj h)
            exact zr_reI (pc := 107) cx hr hlk hz dX11_plant_107
          · replace h := zBr_f w3 h
            by_cases w4 : v2 = 4
            · replace h := zBr_t w4 h
              refine lv_tableIn (pc := 21) (off := 87) (tgt := 108) hx hb dX11_plant_21 (by rw [w4]; decide) (by rw [w4]; decide) (by rw [w4]; rfl) (by decide) ?_
              refine lv_aload_n (pc := 108) hx hb dX11_plant_108 rfl (lv_at hl 0 rfl) ?_
              refine zr_getR (pc := 109) (t := 14) cx lk_X11_28 hC nC_0 sC_0 rfl dX11_plant_109 ?_
              refine lv_iload_n (pc := 112) hx hb dX11_plant_112 rfl (lv_at hl 1 rfl) ?_
              obtain ⟨r2, k2, h⟩ := zBd_e h
              refine zr_VI (pc := 113) (rest := []) cx cv_X11_169 (mX6_seenBy zLife_14 k2) ⟨⟨rfl, rfl⟩, Nat.le_of_ble_eq_true rfl, Nat.le_of_ble_eq_true rfl⟩ ⟨Nat.le_of_ble_eq_true rfl, Nat.le_of_ble_eq_true rfl⟩ hC (nX6_0 zLife_14) (sX6_0 zLife_14) rfl hl.1 rfl rfl (Nat.le_of_ble_eq_true rfl) dX11_plant_113 ?_
              have hz := Option.some.inj (Option.some.inj h)
              exact zr_reI (pc := 116) cx hr hlk hz dX11_plant_116
            · replace h := zBr_f w4 h
              by_cases w5 : v2 = 5
              · replace h := zBr_t w5 h
                refine lv_tableIn (pc := 21) (off := 96) (tgt := 117) hx hb dX11_plant_21 (by rw [w5]; decide) (by rw [w5]; decide) (by rw [w5]; rfl) (by decide) ?_
                refine lv_aload_n (pc := 117) hx hb dX11_plant_117 rfl (lv_at hl 0 rfl) ?_
                refine zr_getR (pc := 118) (t := 14) cx lk_X11_28 hC nC_0 sC_0 rfl dX11_plant_118 ?_
                refine lv_iload_n (pc := 121) hx hb dX11_plant_121 rfl (lv_at hl 1 rfl) ?_
                obtain ⟨r2, k2, h⟩ := zBd_e h
                refine zr_VI (pc := 122) (rest := []) cx cv_X11_173 (mX6_actsShown zLife_14 k2) ⟨⟨rfl, rfl⟩, Nat.le_of_ble_eq_true rfl, Nat.le_of_ble_eq_true rfl⟩ ⟨Nat.le_of_ble_eq_true rfl, Nat.le_of_ble_eq_true rfl⟩ hC (nX6_0 zLife_14) (sX6_0 zLife_14) rfl hl.1 rfl rfl (Nat.le_of_ble_eq_true rfl) dX11_plant_122 ?_
                obtain ⟨r3, k3, h⟩ := zBd_e h
                refine zr_SI (pc := 125) (rest := []) cx cs_X11_176 (mJ6_bitCount_0f7a4 k3) ⟨⟨rfl, rfl⟩, Nat.le_of_ble_eq_true rfl, Nat.le_of_ble_eq_true rfl⟩ ⟨Nat.le_of_ble_eq_true rfl, Nat.le_of_ble_eq_true rfl⟩ (zr_preK cx) hl.1 rfl rfl (Nat.le_of_ble_eq_true rfl) dX11_plant_125 ?_
                have hz := Option.some.inj (Option.some.inj h)
                exact zr_reI (pc := 128) cx hr hlk hz dX11_plant_128
              · replace h := zBr_f w5 h
                by_cases w6 : v2 = 6
                · replace h := zBr_t w6 h
                  refine lv_tableIn (pc := 21) (off := 108) (tgt := 129) hx hb dX11_plant_21 (by rw [w6]; decide) (by rw [w6]; decide) (by rw [w6]; rfl) (by decide) ?_
                  refine lv_aload_n (pc := 129) hx hb dX11_plant_129 rfl (lv_at hl 0 rfl) ?_
                  refine zr_getR (pc := 130) (t := 14) cx lk_X11_28 hC nC_0 sC_0 rfl dX11_plant_130 ?_
                  refine lv_iload_n (pc := 133) hx hb dX11_plant_133 rfl (lv_at hl 1 rfl) ?_
                  obtain ⟨r2, k2, h⟩ := zBd_e h
                  refine zr_VI (pc := 134) (rest := []) cx cv_X11_173 (mX6_actsShown zLife_14 k2) ⟨⟨rfl, rfl⟩, Nat.le_of_ble_eq_true rfl, Nat.le_of_ble_eq_true rfl⟩ ⟨Nat.le_of_ble_eq_true rfl, Nat.le_of_ble_eq_true rfl⟩ hC (nX6_0 zLife_14) (sX6_0 zLife_14) rfl hl.1 rfl rfl (Nat.le_of_ble_eq_true rfl) dX11_plant_134 ?_
                  have hz := Option.some.inj (Option.some.inj h)
                  exact zr_reI (pc := 137) cx hr hlk hz dX11_plant_137
                · replace h := zBr_f w6 h
                  by_cases w7 : v2 = 7
                  · replace h := zBr_t w7 h
                    refine lv_tableIn (pc := 21) (off := 117) (tgt := 138) hx hb dX11_plant_21 (by rw [w7]; decide) (by rw [w7]; decide) (by rw [w7]; rfl) (by decide) ?_
                    refine lv_aload_n (pc := 138) hx hb dX11_plant_138 rfl (lv_at hl 0 rfl) ?_
                    refine zr_getR (pc := 139) (t := 14) cx lk_X11_28 hC nC_0 sC_0 rfl dX11_plant_139 ?_
                    refine lv_iload_n (pc := 142) hx hb dX11_plant_142 rfl (lv_at hl 1 rfl) ?_
                    obtain ⟨r2, k2, h⟩ := zBd_e h
                    refine zr_VI (pc := 143) (rest := []) cx cv_X11_181 (mX6_leavesDue zLife_14 k2) ⟨⟨rfl, rfl⟩, Nat.le_of_ble_eq_true rfl, Nat.le_of_ble_eq_true rfl⟩ ⟨Nat.le_of_ble_eq_true rfl, Nat.le_of_ble_eq_true rfl⟩ hC (nX6_0 zLife_14) (sX6_0 zLife_14) rfl hl.1 rfl rfl (Nat.le_of_ble_eq_true rfl) dX11_plant_143 ?_
                    have hz := Option.some.inj (Option.some.inj h)
                    exact zr_reI (pc := 146) cx hr hlk hz dX11_plant_146
                  · replace h := zBr_f w7 h
                    exact absurd (Option.some.inj h) (by intro e; cases e)
  · replace h := zBr_t c0 h
    exact absurd (Option.some.inj h) (by intro e; cases e)

theorem dX11_plant_147 : decode cX11_plant 147 = .ok (.new 153, 3) := by decide +kernel
theorem dX11_plant_150 : decode cX11_plant 150 = .ok (.dup, 1) := by decide +kernel
theorem dX11_plant_151 : decode cX11_plant 151 = .ok (.invokespecial 155, 3) := by decide +kernel
theorem dX11_plant_154 : decode cX11_plant 154 = .ok (.athrow, 1) := by decide +kernel
theorem dX11_plant_12 : decode cX11_plant 12 = .ok (.new 153, 3) := by decide +kernel
theorem dX11_plant_15 : decode cX11_plant 15 = .ok (.dup, 1) := by decide +kernel
theorem dX11_plant_16 : decode cX11_plant 16 = .ok (.invokespecial 155, 3) := by decide +kernel
theorem dX11_plant_19 : decode cX11_plant 19 = .ok (.athrow, 1) := by decide +kernel
abbrev rmTX11_plant : Room := { frames := 6, cells := 1, slots := 6, locals := 100 }
set_option maxHeartbeats 1000000 in
set_option maxRecDepth 100000 in
theorem tX11_plant {l : Launch} {D : va_G} {cy : Nat → ClassId} {kK kV : Nat → Nat} (hl0 : l.stackTraces = false) {q : Nat → Nat} {S : zSt} {v1 v2 : Int32} (h : pPlant S v1 v2 = some none) : zMt l yX11_plant cX11_plant 3 (some .int) rmTX11_plant [.ref (q 0), .int v1, .int v2] (fun U => zPr zsh zNC D cy q S U ∧ zEn kK kV (fun _ => False) U) := by
  refine zMt.ofW (by decide) ?_
  intro p e s m args below meth c s₁ B hml hv
  obtain ⟨rfl, ⟨hC, hK⟩, hE⟩ := hv
  have cx : zX RX11 cX11_plant 3 p s m ([.ref (q 0), .int v1, .int v2]).toArray c D cy := ⟨B.exec, B.bytes, hml, findClass_of_methodNamed B.named, fun w hw => atoms_spec (ws := Cond.code yX11_plant cX11_plant 3 (some .int) :: zTB) B.pre w (List.mem_cons_of_mem _ hw), hK⟩
  have hcodeV : (Cond.code yX11_plant cX11_plant 3 (some .int)).before ([.ref (q 0), .int v1, .int v2]).toArray s = true := atoms_spec (ws := Cond.code yX11_plant cX11_plant 3 (some .int) :: zTB) B.pre _ List.mem_cons_self
  have hx := cx.1
  have hb := cx.2.1
  have hlk := B.notSynchronized
  have hl := lv_entry ([.ref (q 0), .int v1, .int v2]) (n := 3) (Nat.le_of_ble_eq_true rfl)
  rw [lg_entry_eq]
  generalize (lg_sl ([.ref (q 0), .int v1, .int v2]) ++ List.replicate (3 - (lg_sl ([.ref (q 0), .int v1, .int v2])).length) Slot.unset).toArray = ls at hl ⊢
  have hl : lv_has ls 3 [(0, .ref (q 0)), (1, .int v1), (2, .int v2)] := hl
  unfold pPlant at h
  obtain ⟨r1, k1, h⟩ := zBd_e h
  refine lv_aload_n (pc := 0) hx hb dX11_plant_0 rfl (lv_at hl 0 rfl) ?_
  refine zr_getR (pc := 1) (t := 4) cx lk_X11_19 hC nC_0 sC_0 rfl dX11_plant_1 ?_
  refine lv_iconst (pc := 4) hx hb dX11_plant_4 zc_1 ?_
  refine lv_iload_n (pc := 5) hx hb dX11_plant_5 rfl (lv_at hl 1 rfl) ?_
  refine zr_VI (pc := 6) (rest := []) cx cv_X11_149 (mX3_has zHouse_4 k1) ⟨⟨rfl, rfl⟩, Nat.le_of_ble_eq_true rfl, Nat.le_of_ble_eq_true rfl⟩ ⟨Nat.le_of_ble_eq_true rfl, Nat.le_of_ble_eq_true rfl⟩ hC (nX3_0 zHouse_4) (sX3_0 zHouse_4) rfl hl.1 rfl rfl (Nat.le_of_ble_eq_true rfl) dX11_plant_6 ?_
  refine lv_if_ne (pc := 9) (tgt := 20) hx hb dX11_plant_9 (by decide) (fun c0 => ?_) (fun c0 => ?_)
  · replace h := zBr_f c0 h
    refine lv_iload_n (pc := 20) hx hb dX11_plant_20 rfl (lv_at hl 2 rfl) ?_
    by_cases w0 : v2 = 0
    · replace h := zBr_t w0 h
      obtain ⟨-, h⟩ := zGd_e h
      exact absurd (Option.some.inj h) (by intro e; cases e)
    · replace h := zBr_f w0 h
      by_cases w1 : v2 = 1
      · replace h := zBr_t w1 h
        obtain ⟨-, h⟩ := zGd_e h
        exact absurd (Option.some.inj h) (by intro e; cases e)
      · replace h := zBr_f w1 h
        by_cases w2 : v2 = 2
        · replace h := zBr_t w2 h
          obtain ⟨-, h⟩ := zGd_e h
          exact absurd (Option.some.inj h) (by intro e; cases e)
        · replace h := zBr_f w2 h
          by_cases w3 : v2 = 3
          · replace h := zBr_t w3 h
            obtain ⟨-, h⟩ := zGd_e h
            exact absurd (Option.some.inj h) (by intro e; cases e)
          · replace h := zBr_f w3 h
            by_cases w4 : v2 = 4
            · replace h := zBr_t w4 h
              obtain ⟨x1, -, h⟩ := zBd_e h
              exact absurd (Option.some.inj h) (by intro e; cases e)
            · replace h := zBr_f w4 h
              by_cases w5 : v2 = 5
              · replace h := zBr_t w5 h
                obtain ⟨x1, -, h⟩ := zBd_e h
                obtain ⟨x1, -, h⟩ := zBd_e h
                exact absurd (Option.some.inj h) (by intro e; cases e)
              · replace h := zBr_f w5 h
                by_cases w6 : v2 = 6
                · replace h := zBr_t w6 h
                  obtain ⟨x1, -, h⟩ := zBd_e h
                  exact absurd (Option.some.inj h) (by intro e; cases e)
                · replace h := zBr_f w6 h
                  by_cases w7 : v2 = 7
                  · replace h := zBr_t w7 h
                    obtain ⟨x1, -, h⟩ := zBd_e h
                    exact absurd (Option.some.inj h) (by intro e; cases e)
                  · replace h := zBr_f w7 h
                    refine zr_tsD (pc := 21) (tgt := 147) hx hb dX11_plant_21 (fun h1 h2 => ?_) (by decide) ?_
                    · rcases (show v2.toInt = 0 ∨ v2.toInt = 1 ∨ v2.toInt = 2 ∨ v2.toInt = 3 ∨ v2.toInt = 4 ∨ v2.toInt = 5 ∨ v2.toInt = 6 ∨ v2.toInt = 7 by omega) with e9 | e9 | e9 | e9 | e9 | e9 | e9 | e9
                      · exact absurd (Int32.toInt_inj.mp (e9.trans (by decide))) w0
                      · exact absurd (Int32.toInt_inj.mp (e9.trans (by decide))) w1
                      · exact absurd (Int32.toInt_inj.mp (e9.trans (by decide))) w2
                      · exact absurd (Int32.toInt_inj.mp (e9.trans (by decide))) w3
                      · exact absurd (Int32.toInt_inj.mp (e9.trans (by decide))) w4
                      · exact absurd (Int32.toInt_inj.mp (e9.trans (by decide))) w5
                      · exact absurd (Int32.toInt_inj.mp (e9.trans (by decide))) w6
                      · exact absurd (Int32.toInt_inj.mp (e9.trans (by decide))) w7
                    · exact zr_throw (pc := 147) cx hl0 hE (covers_of_empty (B.noHandlers hcodeV)) hlk (Nat.le_of_ble_eq_true rfl) (Nat.le_of_ble_eq_true rfl) (Nat.le_of_ble_eq_true rfl) (Nat.le_of_ble_eq_true rfl) hl.1 dX11_plant_147 dX11_plant_150 dX11_plant_151 dX11_plant_154
  · exact zr_throw (pc := 12) cx hl0 hE (covers_of_empty (B.noHandlers hcodeV)) hlk (Nat.le_of_ble_eq_true rfl) (Nat.le_of_ble_eq_true rfl) (Nat.le_of_ble_eq_true rfl) (Nat.le_of_ble_eq_true rfl) hl.1 dX11_plant_12 dX11_plant_15 dX11_plant_16 dX11_plant_19
theorem dX11_act_0 : decode cX11_act 0 = .ok (.aload_n 0, 1) := by decide +kernel
theorem dX11_act_1 : decode cX11_act 1 = .ok (.getfield 28, 3) := by decide +kernel
theorem dX11_act_4 : decode cX11_act 4 = .ok (.iload_n 1, 1) := by decide +kernel
theorem dX11_act_5 : decode cX11_act 5 = .ok (.invokevirtual 184, 3) := by decide +kernel
theorem dX11_act_8 : decode cX11_act 8 = .ok (.ifCond .ne 11, 3) := by decide +kernel
theorem dX11_act_19 : decode cX11_act 19 = .ok (.iload_n 2, 1) := by decide +kernel
theorem dX11_act_20 : decode cX11_act 20 = .ok (.tableswitch 126 0 6 #[44, 54, 64, 74, 84, 100, 109], 44) := by decide +kernel
theorem dX11_act_64 : decode cX11_act 64 = .ok (.aload_n 0, 1) := by decide +kernel
theorem dX11_act_65 : decode cX11_act 65 = .ok (.getfield 28, 3) := by decide +kernel
theorem dX11_act_68 : decode cX11_act 68 = .ok (.getfield 188, 3) := by decide +kernel
theorem wd_231 : (Jvm.Cond.fieldLink "ParlourLeaves" (188 : Nat) "ParlourLeaves$Life" "doer" "[I") ∈ zTB := List.mem_filter.mpr ⟨List.mem_append_right _ (List.mem_append_left _ (List.mem_of_getElem? (i := 231) rfl)), rfl⟩
theorem lk_X11_188 : zLk RX11 188 7 3 := ⟨"ParlourLeaves$Life", RX6, TX6, 11, rfl, by decide, wsin_X6, wd_231, rfl⟩
theorem dX11_act_71 : decode cX11_act 71 = .ok (.iload_n 1, 1) := by decide +kernel
theorem dX11_act_72 : decode cX11_act 72 = .ok (.iaload, 1) := by decide +kernel
theorem dX11_act_73 : decode cX11_act 73 = .ok (.ireturn, 1) := by decide +kernel
theorem dX11_act_74 : decode cX11_act 74 = .ok (.aload_n 0, 1) := by decide +kernel
theorem dX11_act_75 : decode cX11_act 75 = .ok (.getfield 28, 3) := by decide +kernel
theorem dX11_act_78 : decode cX11_act 78 = .ok (.getfield 191, 3) := by decide +kernel
theorem wd_233 : (Jvm.Cond.fieldLink "ParlourLeaves" (191 : Nat) "ParlourLeaves$Life" "deed" "[I") ∈ zTB := List.mem_filter.mpr ⟨List.mem_append_right _ (List.mem_append_left _ (List.mem_of_getElem? (i := 233) rfl)), rfl⟩
theorem lk_X11_191 : zLk RX11 191 7 4 := ⟨"ParlourLeaves$Life", RX6, TX6, 11, rfl, by decide, wsin_X6, wd_233, rfl⟩
theorem dX11_act_81 : decode cX11_act 81 = .ok (.iload_n 1, 1) := by decide +kernel
theorem dX11_act_82 : decode cX11_act 82 = .ok (.iaload, 1) := by decide +kernel
theorem dX11_act_83 : decode cX11_act 83 = .ok (.ireturn, 1) := by decide +kernel
theorem dX11_act_84 : decode cX11_act 84 = .ok (.aload_n 0, 1) := by decide +kernel
theorem dX11_act_85 : decode cX11_act 85 = .ok (.getfield 28, 3) := by decide +kernel
theorem dX11_act_88 : decode cX11_act 88 = .ok (.getfield 194, 3) := by decide +kernel
theorem wd_235 : (Jvm.Cond.fieldLink "ParlourLeaves" (194 : Nat) "ParlourLeaves$Life" "where" "[I") ∈ zTB := List.mem_filter.mpr ⟨List.mem_append_right _ (List.mem_append_left _ (List.mem_of_getElem? (i := 235) rfl)), rfl⟩
theorem lk_X11_194 : zLk RX11 194 7 5 := ⟨"ParlourLeaves$Life", RX6, TX6, 11, rfl, by decide, wsin_X6, wd_235, rfl⟩
theorem dX11_act_91 : decode cX11_act 91 = .ok (.iload_n 1, 1) := by decide +kernel
theorem dX11_act_92 : decode cX11_act 92 = .ok (.iaload, 1) := by decide +kernel
theorem dX11_act_93 : decode cX11_act 93 = .ok (.ireturn, 1) := by decide +kernel
theorem dX11_act_94 : decode cX11_act 94 = .ok (.aload_n 0, 1) := by decide +kernel
theorem dX11_act_95 : decode cX11_act 95 = .ok (.getfield 28, 3) := by decide +kernel
theorem dX11_act_98 : decode cX11_act 98 = .ok (.getfield 197, 3) := by decide +kernel
theorem wd_237 : (Jvm.Cond.fieldLink "ParlourLeaves" (197 : Nat) "ParlourLeaves$Life" "when" "[I") ∈ zTB := List.mem_filter.mpr ⟨List.mem_append_right _ (List.mem_append_left _ (List.mem_of_getElem? (i := 237) rfl)), rfl⟩
theorem lk_X11_197 : zLk RX11 197 7 6 := ⟨"ParlourLeaves$Life", RX6, TX6, 11, rfl, by decide, wsin_X6, wd_237, rfl⟩
theorem dX11_act_101 : decode cX11_act 101 = .ok (.iload_n 1, 1) := by decide +kernel
theorem dX11_act_102 : decode cX11_act 102 = .ok (.iaload, 1) := by decide +kernel
theorem dX11_act_103 : decode cX11_act 103 = .ok (.ireturn, 1) := by decide +kernel
theorem dX11_act_104 : decode cX11_act 104 = .ok (.aload_n 0, 1) := by decide +kernel
theorem dX11_act_105 : decode cX11_act 105 = .ok (.getfield 28, 3) := by decide +kernel
theorem dX11_act_108 : decode cX11_act 108 = .ok (.iload_n 1, 1) := by decide +kernel
theorem dX11_act_109 : decode cX11_act 109 = .ok (.aload_n 0, 1) := by decide +kernel
theorem dX11_act_110 : decode cX11_act 110 = .ok (.getfield 28, 3) := by decide +kernel
theorem dX11_act_113 : decode cX11_act 113 = .ok (.getfield 200, 3) := by decide +kernel
theorem dX11_act_116 : decode cX11_act 116 = .ok (.invokevirtual 203, 3) := by decide +kernel
theorem wd_1453 : (Jvm.Cond.methodLink "ParlourLeaves" (203 : Nat) ({ cls := "ParlourLeaves$Life", name := "witnessesBy", desc := "(II)I" } : Jvm.MethodName)) ∈ zTB := List.mem_filter.mpr ⟨List.mem_append_right _ (List.mem_append_right _ (List.mem_append_right _ (List.mem_append_right _ (List.mem_append_right _ (List.mem_append_right _ (List.mem_append_right _ (List.mem_append_left _ (List.mem_of_getElem? (i := 13) rfl)))))))), rfl⟩
theorem cv_X11_203 : zCV RX11 RX6 203 yX6_witnessesBy cX6_witnessesBy 5 (some .int) 2 := ⟨rfl, ⟨by decide, by decide, by decide +kernel⟩, wd_1453, wd_724, wd_725, wd_8, wd_726⟩
theorem dX11_act_119 : decode cX11_act 119 = .ok (.ireturn, 1) := by decide +kernel
theorem dX11_act_120 : decode cX11_act 120 = .ok (.aload_n 0, 1) := by decide +kernel
theorem dX11_act_121 : decode cX11_act 121 = .ok (.getfield 28, 3) := by decide +kernel
theorem dX11_act_124 : decode cX11_act 124 = .ok (.iload_n 1, 1) := by decide +kernel
theorem dX11_act_125 : decode cX11_act 125 = .ok (.invokevirtual 207, 3) := by decide +kernel
theorem wd_1456 : (Jvm.Cond.selects "ParlourLeaves$Life" ({ cls := "ParlourLeaves$Life", name := "witnessesDue", desc := "(I)I" } : Jvm.MethodName) ({ cls := "ParlourLeaves$Life", name := "witnessesDue", desc := "(I)I" } : Jvm.MethodName)) ∈ zTB := List.mem_filter.mpr ⟨List.mem_append_right _ (List.mem_append_right _ (List.mem_append_right _ (List.mem_append_right _ (List.mem_append_right _ (List.mem_append_right _ (List.mem_append_right _ (List.mem_append_left _ (List.mem_of_getElem? (i := 16) rfl)))))))), rfl⟩
theorem wd_1454 : (Jvm.Cond.methodLink "ParlourLeaves" (207 : Nat) ({ cls := "ParlourLeaves$Life", name := "witnessesDue", desc := "(I)I" } : Jvm.MethodName)) ∈ zTB := List.mem_filter.mpr ⟨List.mem_append_right _ (List.mem_append_right _ (List.mem_append_right _ (List.mem_append_right _ (List.mem_append_right _ (List.mem_append_right _ (List.mem_append_right _ (List.mem_append_left _ (List.mem_of_getElem? (i := 14) rfl)))))))), rfl⟩
theorem wd_1455 : (Jvm.Cond.instanceMethod ({ cls := "ParlourLeaves$Life", name := "witnessesDue", desc := "(I)I" } : Jvm.MethodName)) ∈ zTB := List.mem_filter.mpr ⟨List.mem_append_right _ (List.mem_append_right _ (List.mem_append_right _ (List.mem_append_right _ (List.mem_append_right _ (List.mem_append_right _ (List.mem_append_right _ (List.mem_append_left _ (List.mem_of_getElem? (i := 15) rfl)))))))), rfl⟩
theorem wd_1457 : (Jvm.Cond.code ({ cls := "ParlourLeaves$Life", name := "witnessesDue", desc := "(I)I" } : Jvm.MethodName) prog_8_method_18_code (4 : Nat) (Option.some Jvm.ClassFile.FieldType.int)) ∈ zTB := List.mem_filter.mpr ⟨List.mem_append_right _ (List.mem_append_right _ (List.mem_append_right _ (List.mem_append_right _ (List.mem_append_right _ (List.mem_append_right _ (List.mem_append_right _ (List.mem_append_left _ (List.mem_of_getElem? (i := 17) rfl)))))))), rfl⟩
theorem cv_X11_207 : zCV RX11 RX6 207 yX6_witnessesDue cX6_witnessesDue 4 (some .int) 1 := ⟨rfl, ⟨by decide, by decide, by decide +kernel⟩, wd_1454, wd_1455, wd_1456, wd_8, wd_1457⟩
theorem dX11_act_128 : decode cX11_act 128 = .ok (.ireturn, 1) := by decide +kernel
theorem dX11_act_129 : decode cX11_act 129 = .ok (.aload_n 0, 1) := by decide +kernel
theorem dX11_act_130 : decode cX11_act 130 = .ok (.getfield 28, 3) := by decide +kernel
theorem dX11_act_133 : decode cX11_act 133 = .ok (.iload_n 1, 1) := by decide +kernel
theorem dX11_act_134 : decode cX11_act 134 = .ok (.invokevirtual 210, 3) := by decide +kernel
theorem wd_1458 : (Jvm.Cond.methodLink "ParlourLeaves" (210 : Nat) ({ cls := "ParlourLeaves$Life", name := "isProved", desc := "(I)Z" } : Jvm.MethodName)) ∈ zTB := List.mem_filter.mpr ⟨List.mem_append_right _ (List.mem_append_right _ (List.mem_append_right _ (List.mem_append_right _ (List.mem_append_right _ (List.mem_append_right _ (List.mem_append_right _ (List.mem_append_left _ (List.mem_of_getElem? (i := 18) rfl)))))))), rfl⟩
theorem cv_X11_210 : zCV RX11 RX6 210 yX6_isProved cX6_isProved 2 (some .boolean) 1 := ⟨rfl, ⟨by decide, by decide, by decide +kernel⟩, wd_1458, wd_720, wd_721, wd_8, wd_722⟩
theorem dX11_act_137 : decode cX11_act 137 = .ok (.ifCond .eq 7, 3) := by decide +kernel
theorem dX11_act_144 : decode cX11_act 144 = .ok (.iconst 0, 1) := by decide +kernel
theorem dX11_act_145 : decode cX11_act 145 = .ok (.ireturn, 1) := by decide +kernel
theorem dX11_act_140 : decode cX11_act 140 = .ok (.iconst 1, 1) := by decide +kernel
theorem dX11_act_141 : decode cX11_act 141 = .ok (.goto 4, 3) := by decide +kernel
abbrev rmX11_act : Room := { frames := 3, cells := 0, slots := 0, locals := 65 }
set_option maxHeartbeats 1000000 in
set_option maxRecDepth 100000 in
theorem mX11_act {l : Launch} {D : va_G} {cy : Nat → ClassId} {kK kV : Nat → Nat} {q : Nat → Nat} {S : zSt} {v1 v2 z : Int32} (h : pAct S v1 v2 = some (some z))  : zMi l yX11_act cX11_act 3 (some .int) rmX11_act [.ref (q 0), .int v1, .int v2] (zPr zsh zNC D cy q S) z := by
  refine Met.ofW (cc := cX11_act) (maxL := 3) (ret := (some .int)) (by decide) rfl ?_
  intro p e s m args below meth c s₁ B hml hv
  obtain ⟨rfl, hC, hK⟩ := hv
  have cx : zX RX11 cX11_act 3 p s m ([.ref (q 0), .int v1, .int v2]).toArray c D cy := ⟨B.exec, B.bytes, hml, findClass_of_methodNamed B.named, fun w hw => atoms_spec (ws := Cond.code yX11_act cX11_act 3 (some .int) :: zTB) B.pre w (List.mem_cons_of_mem _ hw), hK⟩
  have hx := cx.1
  have hb := cx.2.1
  have hr := B.returns
  have hlk := B.notSynchronized
  have hl := lv_entry ([.ref (q 0), .int v1, .int v2]) (n := 3) (Nat.le_of_ble_eq_true rfl)
  rw [lg_entry_eq]
  generalize (lg_sl ([.ref (q 0), .int v1, .int v2]) ++ List.replicate (3 - (lg_sl ([.ref (q 0), .int v1, .int v2])).length) Slot.unset).toArray = ls at hl ⊢
  have hl : lv_has ls 3 [(0, .ref (q 0)), (1, .int v1), (2, .int v2)] := hl
  unfold pAct at h
  obtain ⟨r1, k1, h⟩ := zBd_e h
  refine lv_aload_n (pc := 0) hx hb dX11_act_0 rfl (lv_at hl 0 rfl) ?_
  refine zr_getR (pc := 1) (t := 14) cx lk_X11_28 hC nC_0 sC_0 rfl dX11_act_1 ?_
  refine lv_iload_n (pc := 4) hx hb dX11_act_4 rfl (lv_at hl 1 rfl) ?_
  refine zr_VI (pc := 5) (rest := []) cx cv_X11_184 (mX6_hasAct zLife_14 k1) ⟨⟨rfl, rfl⟩, Nat.le_of_ble_eq_true rfl, Nat.le_of_ble_eq_true rfl⟩ ⟨Nat.le_of_ble_eq_true rfl, Nat.le_of_ble_eq_true rfl⟩ hC (nX6_0 zLife_14) (sX6_0 zLife_14) rfl hl.1 rfl rfl (Nat.le_of_ble_eq_true rfl) dX11_act_5 ?_
  refine lv_if_ne (pc := 8) (tgt := 19) hx hb dX11_act_8 (by decide) (fun c0 => ?_) (fun c0 => ?_)
  · replace h := zBr_f c0 h
    refine lv_iload_n (pc := 19) hx hb dX11_act_19 rfl (lv_at hl 2 rfl) ?_
    by_cases w0 : v2 = 0
    · replace h := zBr_t w0 h
      refine lv_tableIn (pc := 20) (off := 44) (tgt := 64) hx hb dX11_act_20 (by rw [w0]; decide) (by rw [w0]; decide) (by rw [w0]; rfl) (by decide) ?_
      refine lv_aload_n (pc := 64) hx hb dX11_act_64 rfl (lv_at hl 0 rfl) ?_
      refine zr_getR (pc := 65) (t := 14) cx lk_X11_28 hC nC_0 sC_0 rfl dX11_act_65 ?_
      refine zr_getR (pc := 68) (t := 15) cx lk_X11_188 hC nC_14 sC_14 rfl dX11_act_68 ?_
      refine lv_iload_n (pc := 71) hx hb dX11_act_71 rfl (lv_at hl 1 rfl) ?_
      obtain ⟨g1, h⟩ := zGd_e h
      refine zr_iald (pc := 72) cx hC nC_15 sC_15 g1 dX11_act_72 ?_
      have hz := Option.some.inj (Option.some.inj h)
      exact zr_reI (pc := 73) cx hr hlk hz dX11_act_73
    · replace h := zBr_f w0 h
      by_cases w1 : v2 = 1
      · replace h := zBr_t w1 h
        refine lv_tableIn (pc := 20) (off := 54) (tgt := 74) hx hb dX11_act_20 (by rw [w1]; decide) (by rw [w1]; decide) (by rw [w1]; rfl) (by decide) ?_
        refine lv_aload_n (pc := 74) hx hb dX11_act_74 rfl (lv_at hl 0 rfl) ?_
        refine zr_getR (pc := 75) (t := 14) cx lk_X11_28 hC nC_0 sC_0 rfl dX11_act_75 ?_
        refine zr_getR (pc := 78) (t := 16) cx lk_X11_191 hC nC_14 sC_14 rfl dX11_act_78 ?_
        refine lv_iload_n (pc := 81) hx hb dX11_act_81 rfl (lv_at hl 1 rfl) ?_
        obtain ⟨g1, h⟩ := zGd_e h
        refine zr_iald (pc := 82) cx hC nC_16 sC_16 g1 dX11_act_82 ?_
        have hz := Option.some.inj (Option.some.inj h)
        exact zr_reI (pc := 83) cx hr hlk hz dX11_act_83
      · replace h := zBr_f w1 h
        by_cases w2 : v2 = 2
        · replace h := zBr_t w2 h
          refine lv_tableIn (pc := 20) (off := 64) (tgt := 84) hx hb dX11_act_20 (by rw [w2]; decide) (by rw [w2]; decide) (by rw [w2]; rfl) (by decide) ?_
          refine lv_aload_n (pc := 84) hx hb dX11_act_84 rfl (lv_at hl 0 rfl) ?_
          refine zr_getR (pc := 85) (t := 14) cx lk_X11_28 hC nC_0 sC_0 rfl dX11_act_85 ?_
          refine zr_getR (pc := 88) (t := 17) cx lk_X11_194 hC nC_14 sC_14 rfl dX11_act_88 ?_
          refine lv_iload_n (pc := 91) hx hb dX11_act_91 rfl (lv_at hl 1 rfl) ?_
          obtain ⟨g1, h⟩ := zGd_e h
          refine zr_iald (pc := 92) cx hC nC_17 sC_17 g1 dX11_act_92 ?_
          have hz := Option.some.inj (Option.some.inj h)
          exact zr_reI (pc := 93) cx hr hlk hz dX11_act_93
        · replace h := zBr_f w2 h
          by_cases w3 : v2 = 3
          · replace h := zBr_t w3 h
            refine lv_tableIn (pc := 20) (off := 74) (tgt := 94) hx hb dX11_act_20 (by rw [w3]; decide) (by rw [w3]; decide) (by rw [w3]; rfl) (by decide) ?_
            refine lv_aload_n (pc := 94) hx hb dX11_act_94 rfl (lv_at hl 0 rfl) ?_
            refine zr_getR (pc := 95) (t := 14) cx lk_X11_28 hC nC_0 sC_0 rfl dX11_act_95 ?_
            refine zr_getR (pc := 98) (t := 18) cx lk_X11_197 hC nC_14 sC_14 rfl dX11_act_98 ?_
            refine lv_iload_n (pc := 101) hx hb dX11_act_101 rfl (lv_at hl 1 rfl) ?_
            obtain ⟨g1, h⟩ := zGd_e h
            refine zr_iald (pc := 102) cx hC nC_18 sC_18 g1 dX11_act_102 ?_
            have hz := Option.some.inj (Option.some.inj h)
            exact zr_reI (pc := 103) cx hr hlk hz dX11_act_103
          · replace h := zBr_f w3 h
            by_cases w4 : v2 = 4
            · replace h := zBr_t w4 h
              refine lv_tableIn (pc := 20) (off := 84) (tgt := 104) hx hb dX11_act_20 (by rw [w4]; decide) (by rw [w4]; decide) (by rw [w4]; rfl) (by decide) ?_
              refine lv_aload_n (pc := 104) hx hb dX11_act_104 rfl (lv_at hl 0 rfl) ?_
              refine zr_getR (pc := 105) (t := 14) cx lk_X11_28 hC nC_0 sC_0 rfl dX11_act_105 ?_
              refine lv_iload_n (pc := 108) hx hb dX11_act_108 rfl (lv_at hl 1 rfl) ?_
              refine lv_aload_n (pc := 109) hx hb dX11_act_109 rfl (lv_at hl 0 rfl) ?_
              refine zr_getR (pc := 110) (t := 14) cx lk_X11_28 hC nC_0 sC_0 rfl dX11_act_110 ?_
              refine zr_getI (pc := 113) cx lk_X11_200 hC nC_14 sC_14 rfl dX11_act_113 ?_
              obtain ⟨r2, k2, h⟩ := zBd_e h
              refine zr_VI (pc := 116) (rest := []) cx cv_X11_203 (mX6_witnessesBy zLife_14 k2) ⟨⟨rfl, rfl⟩, Nat.le_of_ble_eq_true rfl, Nat.le_of_ble_eq_true rfl⟩ ⟨Nat.le_of_ble_eq_true rfl, Nat.le_of_ble_eq_true rfl⟩ hC (nX6_0 zLife_14) (sX6_0 zLife_14) rfl hl.1 rfl rfl (Nat.le_of_ble_eq_true rfl) dX11_act_116 ?_
              have hz := Option.some.inj (Option.some.inj h)
              exact zr_reI (pc := 119) cx hr hlk hz dX11_act_119
            · replace h := zBr_f w4 h
              by_cases w5 : v2 = 5
              · replace h := zBr_t w5 h
                refine lv_tableIn (pc := 20) (off := 100) (tgt := 120) hx hb dX11_act_20 (by rw [w5]; decide) (by rw [w5]; decide) (by rw [w5]; rfl) (by decide) ?_
                refine lv_aload_n (pc := 120) hx hb dX11_act_120 rfl (lv_at hl 0 rfl) ?_
                refine zr_getR (pc := 121) (t := 14) cx lk_X11_28 hC nC_0 sC_0 rfl dX11_act_121 ?_
                refine lv_iload_n (pc := 124) hx hb dX11_act_124 rfl (lv_at hl 1 rfl) ?_
                obtain ⟨r2, k2, h⟩ := zBd_e h
                refine zr_VI (pc := 125) (rest := []) cx cv_X11_207 (mX6_witnessesDue zLife_14 k2) ⟨⟨rfl, rfl⟩, Nat.le_of_ble_eq_true rfl, Nat.le_of_ble_eq_true rfl⟩ ⟨Nat.le_of_ble_eq_true rfl, Nat.le_of_ble_eq_true rfl⟩ hC (nX6_0 zLife_14) (sX6_0 zLife_14) rfl hl.1 rfl rfl (Nat.le_of_ble_eq_true rfl) dX11_act_125 ?_
                have hz := Option.some.inj (Option.some.inj h)
                exact zr_reI (pc := 128) cx hr hlk hz dX11_act_128
              · replace h := zBr_f w5 h
                by_cases w6 : v2 = 6
                · replace h := zBr_t w6 h
                  refine lv_tableIn (pc := 20) (off := 109) (tgt := 129) hx hb dX11_act_20 (by rw [w6]; decide) (by rw [w6]; decide) (by rw [w6]; rfl) (by decide) ?_
                  refine lv_aload_n (pc := 129) hx hb dX11_act_129 rfl (lv_at hl 0 rfl) ?_
                  refine zr_getR (pc := 130) (t := 14) cx lk_X11_28 hC nC_0 sC_0 rfl dX11_act_130 ?_
                  refine lv_iload_n (pc := 133) hx hb dX11_act_133 rfl (lv_at hl 1 rfl) ?_
                  obtain ⟨r2, k2, h⟩ := zBd_e h
                  refine zr_VI (pc := 134) (rest := []) cx cv_X11_210 (mX6_isProved zLife_14 k2) ⟨⟨rfl, rfl⟩, Nat.le_of_ble_eq_true rfl, Nat.le_of_ble_eq_true rfl⟩ ⟨Nat.le_of_ble_eq_true rfl, Nat.le_of_ble_eq_true rfl⟩ hC (nX6_0 zLife_14) (sX6_0 zLife_14) rfl hl.1 rfl rfl (Nat.le_of_ble_eq_true rfl) dX11_act_134 ?_
                  have hz := Option.some.inj (Option.some.inj h)
                  refine lv_if_eq (pc := 137) (tgt := 144) hx hb dX11_act_137 (by decide) (fun c1 => ?_) (fun c1 => ?_)
                  · refine lv_iconst (pc := 144) hx hb dX11_act_144 zc_0 ?_
                    exact zr_reI (pc := 145) cx hr hlk (by rw [← hz, c1]) dX11_act_145
                  · refine lv_iconst (pc := 140) hx hb dX11_act_140 zc_1 ?_
                    refine lv_goto (pc := 141) (tgt := 145) hx hb dX11_act_141 (by decide) ?_
                    exact zr_reI (pc := 145) cx hr hlk (by rw [← hz]; rcases isP_bo k2 with e | e; exact absurd e c1; exact e.symm) dX11_act_145
                · replace h := zBr_f w6 h
                  exact absurd (Option.some.inj h) (by intro e; cases e)
  · replace h := zBr_t c0 h
    exact absurd (Option.some.inj h) (by intro e; cases e)

theorem dX11_act_146 : decode cX11_act 146 = .ok (.new 153, 3) := by decide +kernel
theorem dX11_act_149 : decode cX11_act 149 = .ok (.dup, 1) := by decide +kernel
theorem dX11_act_150 : decode cX11_act 150 = .ok (.invokespecial 155, 3) := by decide +kernel
theorem dX11_act_153 : decode cX11_act 153 = .ok (.athrow, 1) := by decide +kernel
theorem dX11_act_11 : decode cX11_act 11 = .ok (.new 153, 3) := by decide +kernel
theorem dX11_act_14 : decode cX11_act 14 = .ok (.dup, 1) := by decide +kernel
theorem dX11_act_15 : decode cX11_act 15 = .ok (.invokespecial 155, 3) := by decide +kernel
theorem dX11_act_18 : decode cX11_act 18 = .ok (.athrow, 1) := by decide +kernel
abbrev rmTX11_act : Room := { frames := 6, cells := 1, slots := 6, locals := 100 }
set_option maxHeartbeats 1000000 in
set_option maxRecDepth 100000 in
theorem tX11_act {l : Launch} {D : va_G} {cy : Nat → ClassId} {kK kV : Nat → Nat} (hl0 : l.stackTraces = false) {q : Nat → Nat} {S : zSt} {v1 v2 : Int32} (h : pAct S v1 v2 = some none) : zMt l yX11_act cX11_act 3 (some .int) rmTX11_act [.ref (q 0), .int v1, .int v2] (fun U => zPr zsh zNC D cy q S U ∧ zEn kK kV (fun _ => False) U) := by
  refine zMt.ofW (by decide) ?_
  intro p e s m args below meth c s₁ B hml hv
  obtain ⟨rfl, ⟨hC, hK⟩, hE⟩ := hv
  have cx : zX RX11 cX11_act 3 p s m ([.ref (q 0), .int v1, .int v2]).toArray c D cy := ⟨B.exec, B.bytes, hml, findClass_of_methodNamed B.named, fun w hw => atoms_spec (ws := Cond.code yX11_act cX11_act 3 (some .int) :: zTB) B.pre w (List.mem_cons_of_mem _ hw), hK⟩
  have hcodeV : (Cond.code yX11_act cX11_act 3 (some .int)).before ([.ref (q 0), .int v1, .int v2]).toArray s = true := atoms_spec (ws := Cond.code yX11_act cX11_act 3 (some .int) :: zTB) B.pre _ List.mem_cons_self
  have hx := cx.1
  have hb := cx.2.1
  have hlk := B.notSynchronized
  have hl := lv_entry ([.ref (q 0), .int v1, .int v2]) (n := 3) (Nat.le_of_ble_eq_true rfl)
  rw [lg_entry_eq]
  generalize (lg_sl ([.ref (q 0), .int v1, .int v2]) ++ List.replicate (3 - (lg_sl ([.ref (q 0), .int v1, .int v2])).length) Slot.unset).toArray = ls at hl ⊢
  have hl : lv_has ls 3 [(0, .ref (q 0)), (1, .int v1), (2, .int v2)] := hl
  unfold pAct at h
  obtain ⟨r1, k1, h⟩ := zBd_e h
  refine lv_aload_n (pc := 0) hx hb dX11_act_0 rfl (lv_at hl 0 rfl) ?_
  refine zr_getR (pc := 1) (t := 14) cx lk_X11_28 hC nC_0 sC_0 rfl dX11_act_1 ?_
  refine lv_iload_n (pc := 4) hx hb dX11_act_4 rfl (lv_at hl 1 rfl) ?_
  refine zr_VI (pc := 5) (rest := []) cx cv_X11_184 (mX6_hasAct zLife_14 k1) ⟨⟨rfl, rfl⟩, Nat.le_of_ble_eq_true rfl, Nat.le_of_ble_eq_true rfl⟩ ⟨Nat.le_of_ble_eq_true rfl, Nat.le_of_ble_eq_true rfl⟩ hC (nX6_0 zLife_14) (sX6_0 zLife_14) rfl hl.1 rfl rfl (Nat.le_of_ble_eq_true rfl) dX11_act_5 ?_
  refine lv_if_ne (pc := 8) (tgt := 19) hx hb dX11_act_8 (by decide) (fun c0 => ?_) (fun c0 => ?_)
  · replace h := zBr_f c0 h
    refine lv_iload_n (pc := 19) hx hb dX11_act_19 rfl (lv_at hl 2 rfl) ?_
    by_cases w0 : v2 = 0
    · replace h := zBr_t w0 h
      obtain ⟨-, h⟩ := zGd_e h
      exact absurd (Option.some.inj h) (by intro e; cases e)
    · replace h := zBr_f w0 h
      by_cases w1 : v2 = 1
      · replace h := zBr_t w1 h
        obtain ⟨-, h⟩ := zGd_e h
        exact absurd (Option.some.inj h) (by intro e; cases e)
      · replace h := zBr_f w1 h
        by_cases w2 : v2 = 2
        · replace h := zBr_t w2 h
          obtain ⟨-, h⟩ := zGd_e h
          exact absurd (Option.some.inj h) (by intro e; cases e)
        · replace h := zBr_f w2 h
          by_cases w3 : v2 = 3
          · replace h := zBr_t w3 h
            obtain ⟨-, h⟩ := zGd_e h
            exact absurd (Option.some.inj h) (by intro e; cases e)
          · replace h := zBr_f w3 h
            by_cases w4 : v2 = 4
            · replace h := zBr_t w4 h
              obtain ⟨x1, -, h⟩ := zBd_e h
              exact absurd (Option.some.inj h) (by intro e; cases e)
            · replace h := zBr_f w4 h
              by_cases w5 : v2 = 5
              · replace h := zBr_t w5 h
                obtain ⟨x1, -, h⟩ := zBd_e h
                exact absurd (Option.some.inj h) (by intro e; cases e)
              · replace h := zBr_f w5 h
                by_cases w6 : v2 = 6
                · replace h := zBr_t w6 h
                  obtain ⟨x1, -, h⟩ := zBd_e h
                  exact absurd (Option.some.inj h) (by intro e; cases e)
                · replace h := zBr_f w6 h
                  refine zr_tsD (pc := 20) (tgt := 146) hx hb dX11_act_20 (fun h1 h2 => ?_) (by decide) ?_
                  · rcases (show v2.toInt = 0 ∨ v2.toInt = 1 ∨ v2.toInt = 2 ∨ v2.toInt = 3 ∨ v2.toInt = 4 ∨ v2.toInt = 5 ∨ v2.toInt = 6 by omega) with e9 | e9 | e9 | e9 | e9 | e9 | e9
                    · exact absurd (Int32.toInt_inj.mp (e9.trans (by decide))) w0
                    · exact absurd (Int32.toInt_inj.mp (e9.trans (by decide))) w1
                    · exact absurd (Int32.toInt_inj.mp (e9.trans (by decide))) w2
                    · exact absurd (Int32.toInt_inj.mp (e9.trans (by decide))) w3
                    · exact absurd (Int32.toInt_inj.mp (e9.trans (by decide))) w4
                    · exact absurd (Int32.toInt_inj.mp (e9.trans (by decide))) w5
                    · exact absurd (Int32.toInt_inj.mp (e9.trans (by decide))) w6
                  · exact zr_throw (pc := 146) cx hl0 hE (covers_of_empty (B.noHandlers hcodeV)) hlk (Nat.le_of_ble_eq_true rfl) (Nat.le_of_ble_eq_true rfl) (Nat.le_of_ble_eq_true rfl) (Nat.le_of_ble_eq_true rfl) hl.1 dX11_act_146 dX11_act_149 dX11_act_150 dX11_act_153
  · exact zr_throw (pc := 11) cx hl0 hE (covers_of_empty (B.noHandlers hcodeV)) hlk (Nat.le_of_ble_eq_true rfl) (Nat.le_of_ble_eq_true rfl) (Nat.le_of_ble_eq_true rfl) (Nat.le_of_ble_eq_true rfl) hl.1 dX11_act_11 dX11_act_14 dX11_act_15 dX11_act_18
