/-! ===== the law: its sixteen cases ===== -/
theorem ok_L_78 : fx_ok RL 78 RX4 yX4_thrown cX4_thrown 1 (some .int) 0 := ⟨fx_w 765 (by decide +kernel) rfl, fx_w 762 (by decide +kernel) rfl, fx_w 763 (by decide +kernel) rfl, fx_w 764 (by decide +kernel) rfl, fx_w 41 (by decide +kernel) rfl, by decide +kernel⟩
theorem ok_L_77 : fx_ok RL 77 RX4 yX4_rate cX4_rate 4 (some .int) 2 := ⟨fx_w 769 (by decide +kernel) rfl, fx_w 766 (by decide +kernel) rfl, fx_w 767 (by decide +kernel) rfl, fx_w 768 (by decide +kernel) rfl, fx_w 41 (by decide +kernel) rfl, by decide +kernel⟩
theorem ok_L_85 : fx_ok RL 85 RX4 yX4_buy cX4_buy 7 (some .int) 4 := ⟨fx_w 781 (by decide +kernel) rfl, fx_w 778 (by decide +kernel) rfl, fx_w 779 (by decide +kernel) rfl, fx_w 780 (by decide +kernel) rfl, fx_w 41 (by decide +kernel) rfl, by decide +kernel⟩
theorem ok_L_89 : fx_ok RL 89 RX4 yX4_giveBack cX4_giveBack 3 (some .int) 1 := ⟨fx_w 785 (by decide +kernel) rfl, fx_w 782 (by decide +kernel) rfl, fx_w 783 (by decide +kernel) rfl, fx_w 784 (by decide +kernel) rfl, fx_w 41 (by decide +kernel) rfl, by decide +kernel⟩
theorem ok_L_92 : fx_ok RL 92 RX4 yX4_ferry cX4_ferry 4 (some .int) 2 := ⟨fx_w 793 (by decide +kernel) rfl, fx_w 790 (by decide +kernel) rfl, fx_w 791 (by decide +kernel) rfl, fx_w 792 (by decide +kernel) rfl, fx_w 41 (by decide +kernel) rfl, by decide +kernel⟩
theorem ok_L_95 : fx_ok RL 95 RX4 yX4_seat cX4_seat 4 (some .int) 2 := ⟨fx_w 797 (by decide +kernel) rfl, fx_w 794 (by decide +kernel) rfl, fx_w 795 (by decide +kernel) rfl, fx_w 796 (by decide +kernel) rfl, fx_w 41 (by decide +kernel) rfl, by decide +kernel⟩
theorem ok_L_98 : fx_ok RL 98 RX4 yX4_leaveSeat cX4_leaveSeat 6 (some .int) 2 := ⟨fx_w 813 (by decide +kernel) rfl, fx_w 810 (by decide +kernel) rfl, fx_w 811 (by decide +kernel) rfl, fx_w 812 (by decide +kernel) rfl, fx_w 41 (by decide +kernel) rfl, by decide +kernel⟩
theorem ok_L_101 : fx_ok RL 101 RX4 yX4_aboard cX4_aboard 7 (some .int) 2 := ⟨fx_w 817 (by decide +kernel) rfl, fx_w 814 (by decide +kernel) rfl, fx_w 815 (by decide +kernel) rfl, fx_w 816 (by decide +kernel) rfl, fx_w 41 (by decide +kernel) rfl, by decide +kernel⟩
theorem ok_L_104 : fx_ok RL 104 RX4 yX4_stamp cX4_stamp 5 (some .int) 2 := ⟨fx_w 821 (by decide +kernel) rfl, fx_w 818 (by decide +kernel) rfl, fx_w 819 (by decide +kernel) rfl, fx_w 820 (by decide +kernel) rfl, fx_w 41 (by decide +kernel) rfl, by decide +kernel⟩
theorem ok_L_108 : fx_ok RL 108 RX4 yX4_check cX4_check 4 (some .int) 2 := ⟨fx_w 825 (by decide +kernel) rfl, fx_w 822 (by decide +kernel) rfl, fx_w 823 (by decide +kernel) rfl, fx_w 824 (by decide +kernel) rfl, fx_w 41 (by decide +kernel) rfl, by decide +kernel⟩
theorem ok_L_111 : fx_ok RL 111 RX4 yX4_comeBack cX4_comeBack 3 (some .int) 1 := ⟨fx_w 829 (by decide +kernel) rfl, fx_w 826 (by decide +kernel) rfl, fx_w 827 (by decide +kernel) rfl, fx_w 828 (by decide +kernel) rfl, fx_w 41 (by decide +kernel) rfl, by decide +kernel⟩
theorem ok_L_114 : fx_ok RL 114 RX4 yX4_pass cX4_pass 4 (some .int) 1 := ⟨fx_w 833 (by decide +kernel) rfl, fx_w 830 (by decide +kernel) rfl, fx_w 831 (by decide +kernel) rfl, fx_w 832 (by decide +kernel) rfl, fx_w 41 (by decide +kernel) rfl, by decide +kernel⟩
theorem ok_L_117 : fx_ok RL 117 RX4 yX4_ofReceipt cX4_ofReceipt 3 (some .int) 2 := ⟨fx_w 849 (by decide +kernel) rfl, fx_w 846 (by decide +kernel) rfl, fx_w 847 (by decide +kernel) rfl, fx_w 848 (by decide +kernel) rfl, fx_w 41 (by decide +kernel) rfl, by decide +kernel⟩
theorem ok_L_120 : fx_ok RL 120 RX4 yX4_code cX4_code 5 (some .char) 2 := ⟨fx_w 853 (by decide +kernel) rfl, fx_w 850 (by decide +kernel) rfl, fx_w 851 (by decide +kernel) rfl, fx_w 852 (by decide +kernel) rfl, fx_w 41 (by decide +kernel) rfl, by decide +kernel⟩
theorem ok_L_123 : fx_ok RL 123 RX4 yX4_ofTraveller cX4_ofTraveller 3 (some .int) 2 := ⟨fx_w 865 (by decide +kernel) rfl, fx_w 862 (by decide +kernel) rfl, fx_w 863 (by decide +kernel) rfl, fx_w 864 (by decide +kernel) rfl, fx_w 41 (by decide +kernel) rfl, by decide +kernel⟩
theorem ok_L_126 : fx_ok RL 126 RX4 yX4_refundsAnew cX4_refundsAnew 2 (some .int) 1 := ⟨fx_w 869 (by decide +kernel) rfl, fx_w 866 (by decide +kernel) rfl, fx_w 867 (by decide +kernel) rfl, fx_w 868 (by decide +kernel) rfl, fx_w 41 (by decide +kernel) rfl, by decide +kernel⟩
theorem ok_L_129 : fx_ok RL 129 RX4 yX4_debt cX4_debt 4 (some .int) 1 := ⟨fx_w 873 (by decide +kernel) rfl, fx_w 870 (by decide +kernel) rfl, fx_w 871 (by decide +kernel) rfl, fx_w 872 (by decide +kernel) rfl, fx_w 41 (by decide +kernel) rfl, by decide +kernel⟩
set_option maxHeartbeats 4000000 in
set_option maxRecDepth 100000 in
theorem law_rate {p : Program} {l : Launch} {e : Env} {s : State} {m : MethodId} {below : List Frame} {meth : Method} {c : Code} {H : Heap} {locs : List Loc} {cells slots : Nat} {Q : State → Prop} {Z : fx_Z} {ad am : Nat → Nat} {b L i : Nat} {xs : Nat → Int32} {ls : Array Slot} {g h : St} {o : Int64} {Rel : St → St → Prop}
    (K : l_K p s m meth c b L xs Z) (hA : l_ad s ad am) (hop : ∀ a0 a1 : Int32, op_OK l Z ad am Rel yL_rate cL_rate 5 [(0, 10, 13, 13), (0, 10, 17, 15)] yX4_rate cX4_rate 4 (some .int) [.int a0, .int a1]) (hR : Rel g h) (hW : va_P Z.1 vwCl (iw 116 (wF ad Z.2.1 (g, o))) H) (hM : va_P Z.1 vwCl (iw 22 (mF am (Z.2.1 0) h)) H) (hS : va_S (lA s) s.heap H locs) (hi : i + 5 ≤ L) (hL : L ≤ 2560) (hcs : cells + 2 ≤ room_1.cells ∧ slots + 20 ≤ room_1.slots) (hl : lv_has ls 7 [(4, .int (nI i)), (3, .ref (ad 115)), (2, .ref (am 0)), (1, .ref (ad 0)), (0, .ref b)])
    (kk : ∀ (g2 h2 : St) (o2 : Int64) (H1 : Heap) (locs1 : List Loc) (ls : Array Slot), Rel g2 h2 → va_P Z.1 vwCl (iw 116 (wF ad Z.2.1 (g2, o2))) H1 → va_P Z.1 vwCl (iw 22 (mF am (Z.2.1 0) h2)) H1 → va_S (lA s) s.heap H1 locs1 → lv_has ls 7 [(4, .int (nI i)), (3, .ref (ad 115)), (2, .ref (am 0)), (1, .ref (ad 0)), (0, .ref b)] → W p l e room_1 s m #[Value.ref b] below meth c H1 locs1 (cells + 2) (slots + 20) Q (F0 m 1184 ls [])) :
    W p l e room_1 s m #[Value.ref b] below meth c H locs cells slots Q (F0 m 116 ls []) := by
  have hx := K.1
  have hb := K.2.1
  have hcs1 := hcs.1
  have hcs2 := hcs.2
  obtain ⟨code, r, ⟨g2, o2⟩, h2, fr, lo, hfr, hlo, hCw, hCm, hth, hout, hrel⟩ := hop (xs (i + 1)) (xs (i + 2)) g h o hR
  have hout : code = 0 → o2 = r.toInt64 := hout
  have hrel : Rel g2 h2 := hrel
  refine lv_aload_n hx hb dL_law_116 rfl (lv_at hl 3 rfl) ?_
  refine lv_aload_n hx hb dL_law_117 rfl (lv_at hl 4 rfl) ?_
  refine lv_iload hx hb dL_law_118 (lv_at hl 0 rfl) ?_
  refine lv_iconst (v := 1) hx hb dL_law_120 (by decide) ?_
  refine lv_iadd hx hb dL_law_121 ?_
  rw [show nI i + 1 = nI (i + 1) from nI_add i 1]
  refine l_sld K hS (by omega) (by omega) dL_law_122 ?_
  refine lv_aload_n hx hb dL_law_123 rfl (lv_at hl 4 rfl) ?_
  refine lv_iload hx hb dL_law_124 (lv_at hl 0 rfl) ?_
  refine lv_iconst (v := 2) hx hb dL_law_126 (by decide) ?_
  refine lv_iadd hx hb dL_law_127 ?_
  rw [show nI i + 2 = nI (i + 2) from nI_add i 2]
  refine l_sld K hS (by omega) (by omega) dL_law_128 ?_
  refine lv_aload_n hx hb dL_law_129 rfl (lv_at hl 1 rfl) ?_
  refine l_wrap (n := 4) (rest := []) K hA hW hM hS hCw (fx_w 168 (by decide +kernel) rfl) (fx_w 166 (by decide +kernel) rfl) (fx_w 167 (by decide +kernel) rfl) (fx_w 36 (by decide +kernel) rfl) ⟨by decide, by decide, by decide +kernel⟩ rfl ⟨by decide, by decide⟩ rfl hl.1 (Nat.le_of_ble_eq_true rfl) ⟨hcs1, hcs2⟩ dL_law_130 (fun H locs hW hM hS => ?_)
  refine lv_istore (lv' := [(5, .int code), (4, .int (nI i)), (3, .ref (ad 115)), (2, .ref (am 0)), (1, .ref (ad 0)), (0, .ref b)]) hx hb dL_law_133 hl (by decide) rfl (fun ls hl => ?_)
  refine lv_aload_n hx hb dL_law_135 rfl (lv_at hl 3 rfl) ?_
  refine lv_aload_n hx hb dL_law_136 rfl (lv_at hl 5 rfl) ?_
  refine lv_iload hx hb dL_law_137 (lv_at hl 1 rfl) ?_
  refine lv_iconst (v := 1) hx hb dL_law_139 (by decide) ?_
  refine lv_iadd hx hb dL_law_140 ?_
  rw [show nI i + 1 = nI (i + 1) from nI_add i 1]
  refine l_sld K hS (by omega) (by omega) dL_law_141 ?_
  refine lv_aload_n hx hb dL_law_142 rfl (lv_at hl 5 rfl) ?_
  refine lv_iload hx hb dL_law_143 (lv_at hl 1 rfl) ?_
  refine lv_iconst (v := 2) hx hb dL_law_145 (by decide) ?_
  refine lv_iadd hx hb dL_law_146 ?_
  rw [show nI i + 2 = nI (i + 2) from nI_add i 2]
  refine l_sld K hS (by omega) (by omega) dL_law_147 ?_
  refine l_model (rest := []) K hA hW hM hS hCm ok_L_77 rfl ⟨by show fr + 1 ≤ 13; omega, by show 8 + (4 + 11) + lo ≤ 502; omega⟩ rfl hl.1 (Nat.le_of_ble_eq_true rfl) ⟨by show cells + 2 + 0 ≤ room_1.cells; omega, by show slots + 20 + 0 ≤ room_1.slots; omega⟩ dL_law_148 (fun H locs hW hM hS => ?_)
  refine lv_istore (lv' := [(6, .int r), (5, .int code), (4, .int (nI i)), (3, .ref (ad 115)), (2, .ref (am 0)), (1, .ref (ad 0)), (0, .ref b)]) hx hb dL_law_151 hl (by decide) rfl (fun ls hl => ?_)
  refine lv_aload_n hx hb dL_law_153 rfl (lv_at hl 4 rfl) ?_
  refine l_model (rest := []) K hA hW hM hS (c_X4_thrown l Z am hA.2.1 h2) ok_L_78 rfl ⟨by decide, by decide⟩ rfl hl.1 (Nat.le_of_ble_eq_true rfl) ⟨by show cells + 2 + 0 ≤ room_1.cells; omega, by show slots + 20 + 0 ≤ room_1.slots; omega⟩ dL_law_154 (fun H locs hW hM hS => ?_)
  refine lv_iload hx hb dL_law_157 (lv_at hl 1 rfl) ?_
  refine lv_icmp_eq (tgt := 164) hx hb dL_law_159 (by decide) (fun _ => ?_) (fun c9 => absurd hth c9)
  refine lv_iload hx hb dL_law_164 (lv_at hl 1 rfl) ?_
  refine lv_if_ne (tgt := 181) hx hb dL_law_166 (by decide) (fun c9 => ?_) (fun c9 => ?_)
  · refine lv_goto (tgt := 1184) hx hb dL_law_181 (by decide) ?_
    exact kk g2 h2 o2 H locs ls hrel hW hM hS (lv_sub hl [2, 3, 4, 5, 6] rfl)
  have hc0 : code = 0 := c9
  have ho2 := hout hc0
  subst ho2
  refine lv_aload_n hx hb dL_law_169 rfl (lv_at hl 3 rfl) ?_
  refine lv_iconst (v := 0) hx hb dL_law_170 (by decide) ?_
  refine l_oget K hW dL_law_171 ?_
  refine lv_iload hx hb dL_law_172 (lv_at hl 0 rfl) ?_
  refine lv_i2l hx hb dL_law_174 rfl ?_
  refine l_lcmp hx hb dL_law_175 ?_
  refine lv_if_eq (tgt := 181) hx hb dL_law_176 (by decide) (fun _ => ?_) (fun c9 => absurd rfl c9)
  refine lv_goto (tgt := 1184) hx hb dL_law_181 (by decide) ?_
  exact kk g2 h2 r.toInt64 H locs ls hrel hW hM hS (lv_sub hl [2, 3, 4, 5, 6] rfl)

set_option maxHeartbeats 4000000 in
set_option maxRecDepth 100000 in
theorem law_buy {p : Program} {l : Launch} {e : Env} {s : State} {m : MethodId} {below : List Frame} {meth : Method} {c : Code} {H : Heap} {locs : List Loc} {cells slots : Nat} {Q : State → Prop} {Z : fx_Z} {ad am : Nat → Nat} {b L i : Nat} {xs : Nat → Int32} {ls : Array Slot} {g h : St} {o : Int64} {Rel : St → St → Prop}
    (K : l_K p s m meth c b L xs Z) (hA : l_ad s ad am) (hop : ∀ a0 a1 a2 a3 : Int32, op_OK l Z ad am Rel yL_buy cL_buy 7 [(0, 14, 17, 13), (0, 14, 21, 15), (0, 14, 25, 21)] yX4_buy cX4_buy 7 (some .int) [.int a0, .int a1, .int a2, .int a3]) (hR : Rel g h) (hW : va_P Z.1 vwCl (iw 116 (wF ad Z.2.1 (g, o))) H) (hM : va_P Z.1 vwCl (iw 22 (mF am (Z.2.1 0) h)) H) (hS : va_S (lA s) s.heap H locs) (hi : i + 5 ≤ L) (hL : L ≤ 2560) (hcs : cells + 2 ≤ room_1.cells ∧ slots + 20 ≤ room_1.slots) (hl : lv_has ls 7 [(4, .int (nI i)), (3, .ref (ad 115)), (2, .ref (am 0)), (1, .ref (ad 0)), (0, .ref b)])
    (kk : ∀ (g2 h2 : St) (o2 : Int64) (H1 : Heap) (locs1 : List Loc) (ls : Array Slot), Rel g2 h2 → va_P Z.1 vwCl (iw 116 (wF ad Z.2.1 (g2, o2))) H1 → va_P Z.1 vwCl (iw 22 (mF am (Z.2.1 0) h2)) H1 → va_S (lA s) s.heap H1 locs1 → lv_has ls 7 [(4, .int (nI i)), (3, .ref (ad 115)), (2, .ref (am 0)), (1, .ref (ad 0)), (0, .ref b)] → W p l e room_1 s m #[Value.ref b] below meth c H1 locs1 (cells + 2) (slots + 20) Q (F0 m 1184 ls [])) :
    W p l e room_1 s m #[Value.ref b] below meth c H locs cells slots Q (F0 m 184 ls []) := by
  have hx := K.1
  have hb := K.2.1
  have hcs1 := hcs.1
  have hcs2 := hcs.2
  obtain ⟨code, r, ⟨g2, o2⟩, h2, fr, lo, hfr, hlo, hCw, hCm, hth, hout, hrel⟩ := hop (xs (i + 1)) (xs (i + 2)) (xs (i + 3)) (xs (i + 4)) g h o hR
  have hout : code = 0 → o2 = r.toInt64 := hout
  have hrel : Rel g2 h2 := hrel
  refine lv_aload_n hx hb dL_law_184 rfl (lv_at hl 3 rfl) ?_
  refine lv_aload_n hx hb dL_law_185 rfl (lv_at hl 4 rfl) ?_
  refine lv_iload hx hb dL_law_186 (lv_at hl 0 rfl) ?_
  refine lv_iconst (v := 1) hx hb dL_law_188 (by decide) ?_
  refine lv_iadd hx hb dL_law_189 ?_
  rw [show nI i + 1 = nI (i + 1) from nI_add i 1]
  refine l_sld K hS (by omega) (by omega) dL_law_190 ?_
  refine lv_aload_n hx hb dL_law_191 rfl (lv_at hl 4 rfl) ?_
  refine lv_iload hx hb dL_law_192 (lv_at hl 0 rfl) ?_
  refine lv_iconst (v := 2) hx hb dL_law_194 (by decide) ?_
  refine lv_iadd hx hb dL_law_195 ?_
  rw [show nI i + 2 = nI (i + 2) from nI_add i 2]
  refine l_sld K hS (by omega) (by omega) dL_law_196 ?_
  refine lv_aload_n hx hb dL_law_197 rfl (lv_at hl 4 rfl) ?_
  refine lv_iload hx hb dL_law_198 (lv_at hl 0 rfl) ?_
  refine lv_iconst (v := 3) hx hb dL_law_200 (by decide) ?_
  refine lv_iadd hx hb dL_law_201 ?_
  rw [show nI i + 3 = nI (i + 3) from nI_add i 3]
  refine l_sld K hS (by omega) (by omega) dL_law_202 ?_
  refine lv_aload_n hx hb dL_law_203 rfl (lv_at hl 4 rfl) ?_
  refine lv_iload hx hb dL_law_204 (lv_at hl 0 rfl) ?_
  refine lv_iconst (v := 4) hx hb dL_law_206 (by decide) ?_
  refine lv_iadd hx hb dL_law_207 ?_
  rw [show nI i + 4 = nI (i + 4) from nI_add i 4]
  refine l_sld K hS (by omega) (by omega) dL_law_208 ?_
  refine lv_aload_n hx hb dL_law_209 rfl (lv_at hl 1 rfl) ?_
  refine l_wrap (n := 6) (rest := []) K hA hW hM hS hCw (fx_w 265 (by decide +kernel) rfl) (fx_w 263 (by decide +kernel) rfl) (fx_w 264 (by decide +kernel) rfl) (fx_w 36 (by decide +kernel) rfl) ⟨by decide, by decide, by decide +kernel⟩ rfl ⟨by decide, by decide⟩ rfl hl.1 (Nat.le_of_ble_eq_true rfl) ⟨hcs1, hcs2⟩ dL_law_210 (fun H locs hW hM hS => ?_)
  refine lv_istore (lv' := [(5, .int code), (4, .int (nI i)), (3, .ref (ad 115)), (2, .ref (am 0)), (1, .ref (ad 0)), (0, .ref b)]) hx hb dL_law_213 hl (by decide) rfl (fun ls hl => ?_)
  refine lv_aload_n hx hb dL_law_215 rfl (lv_at hl 3 rfl) ?_
  refine lv_aload_n hx hb dL_law_216 rfl (lv_at hl 5 rfl) ?_
  refine lv_iload hx hb dL_law_217 (lv_at hl 1 rfl) ?_
  refine lv_iconst (v := 1) hx hb dL_law_219 (by decide) ?_
  refine lv_iadd hx hb dL_law_220 ?_
  rw [show nI i + 1 = nI (i + 1) from nI_add i 1]
  refine l_sld K hS (by omega) (by omega) dL_law_221 ?_
  refine lv_aload_n hx hb dL_law_222 rfl (lv_at hl 5 rfl) ?_
  refine lv_iload hx hb dL_law_223 (lv_at hl 1 rfl) ?_
  refine lv_iconst (v := 2) hx hb dL_law_225 (by decide) ?_
  refine lv_iadd hx hb dL_law_226 ?_
  rw [show nI i + 2 = nI (i + 2) from nI_add i 2]
  refine l_sld K hS (by omega) (by omega) dL_law_227 ?_
  refine lv_aload_n hx hb dL_law_228 rfl (lv_at hl 5 rfl) ?_
  refine lv_iload hx hb dL_law_229 (lv_at hl 1 rfl) ?_
  refine lv_iconst (v := 3) hx hb dL_law_231 (by decide) ?_
  refine lv_iadd hx hb dL_law_232 ?_
  rw [show nI i + 3 = nI (i + 3) from nI_add i 3]
  refine l_sld K hS (by omega) (by omega) dL_law_233 ?_
  refine lv_aload_n hx hb dL_law_234 rfl (lv_at hl 5 rfl) ?_
  refine lv_iload hx hb dL_law_235 (lv_at hl 1 rfl) ?_
  refine lv_iconst (v := 4) hx hb dL_law_237 (by decide) ?_
  refine lv_iadd hx hb dL_law_238 ?_
  rw [show nI i + 4 = nI (i + 4) from nI_add i 4]
  refine l_sld K hS (by omega) (by omega) dL_law_239 ?_
  refine l_model (rest := []) K hA hW hM hS hCm ok_L_85 rfl ⟨by show fr + 1 ≤ 13; omega, by show 8 + (7 + 11) + lo ≤ 502; omega⟩ rfl hl.1 (Nat.le_of_ble_eq_true rfl) ⟨by show cells + 2 + 0 ≤ room_1.cells; omega, by show slots + 20 + 0 ≤ room_1.slots; omega⟩ dL_law_240 (fun H locs hW hM hS => ?_)
  refine lv_istore (lv' := [(6, .int r), (5, .int code), (4, .int (nI i)), (3, .ref (ad 115)), (2, .ref (am 0)), (1, .ref (ad 0)), (0, .ref b)]) hx hb dL_law_243 hl (by decide) rfl (fun ls hl => ?_)
  refine lv_aload_n hx hb dL_law_245 rfl (lv_at hl 4 rfl) ?_
  refine l_model (rest := []) K hA hW hM hS (c_X4_thrown l Z am hA.2.1 h2) ok_L_78 rfl ⟨by decide, by decide⟩ rfl hl.1 (Nat.le_of_ble_eq_true rfl) ⟨by show cells + 2 + 0 ≤ room_1.cells; omega, by show slots + 20 + 0 ≤ room_1.slots; omega⟩ dL_law_246 (fun H locs hW hM hS => ?_)
  refine lv_iload hx hb dL_law_249 (lv_at hl 1 rfl) ?_
  refine lv_icmp_eq (tgt := 256) hx hb dL_law_251 (by decide) (fun _ => ?_) (fun c9 => absurd hth c9)
  refine lv_iload hx hb dL_law_256 (lv_at hl 1 rfl) ?_
  refine lv_if_ne (tgt := 273) hx hb dL_law_258 (by decide) (fun c9 => ?_) (fun c9 => ?_)
  · refine lv_goto (tgt := 1184) hx hb dL_law_273 (by decide) ?_
    exact kk g2 h2 o2 H locs ls hrel hW hM hS (lv_sub hl [2, 3, 4, 5, 6] rfl)
  have hc0 : code = 0 := c9
  have ho2 := hout hc0
  subst ho2
  refine lv_aload_n hx hb dL_law_261 rfl (lv_at hl 3 rfl) ?_
  refine lv_iconst (v := 0) hx hb dL_law_262 (by decide) ?_
  refine l_oget K hW dL_law_263 ?_
  refine lv_iload hx hb dL_law_264 (lv_at hl 0 rfl) ?_
  refine lv_i2l hx hb dL_law_266 rfl ?_
  refine l_lcmp hx hb dL_law_267 ?_
  refine lv_if_eq (tgt := 273) hx hb dL_law_268 (by decide) (fun _ => ?_) (fun c9 => absurd rfl c9)
  refine lv_goto (tgt := 1184) hx hb dL_law_273 (by decide) ?_
  exact kk g2 h2 r.toInt64 H locs ls hrel hW hM hS (lv_sub hl [2, 3, 4, 5, 6] rfl)

set_option maxHeartbeats 4000000 in
set_option maxRecDepth 100000 in
theorem law_giveBack {p : Program} {l : Launch} {e : Env} {s : State} {m : MethodId} {below : List Frame} {meth : Method} {c : Code} {H : Heap} {locs : List Loc} {cells slots : Nat} {Q : State → Prop} {Z : fx_Z} {ad am : Nat → Nat} {b L i : Nat} {xs : Nat → Int32} {ls : Array Slot} {g h : St} {o : Int64} {Rel : St → St → Prop}
    (K : l_K p s m meth c b L xs Z) (hA : l_ad s ad am) (hop : ∀ a0 : Int32, op_OK l Z ad am Rel yL_giveBack cL_giveBack 4 [(0, 9, 12, 13), (0, 9, 15, 21)] yX4_giveBack cX4_giveBack 3 (some .int) [.int a0]) (hR : Rel g h) (hW : va_P Z.1 vwCl (iw 116 (wF ad Z.2.1 (g, o))) H) (hM : va_P Z.1 vwCl (iw 22 (mF am (Z.2.1 0) h)) H) (hS : va_S (lA s) s.heap H locs) (hi : i + 5 ≤ L) (hL : L ≤ 2560) (hcs : cells + 2 ≤ room_1.cells ∧ slots + 20 ≤ room_1.slots) (hl : lv_has ls 7 [(4, .int (nI i)), (3, .ref (ad 115)), (2, .ref (am 0)), (1, .ref (ad 0)), (0, .ref b)])
    (kk : ∀ (g2 h2 : St) (o2 : Int64) (H1 : Heap) (locs1 : List Loc) (ls : Array Slot), Rel g2 h2 → va_P Z.1 vwCl (iw 116 (wF ad Z.2.1 (g2, o2))) H1 → va_P Z.1 vwCl (iw 22 (mF am (Z.2.1 0) h2)) H1 → va_S (lA s) s.heap H1 locs1 → lv_has ls 7 [(4, .int (nI i)), (3, .ref (ad 115)), (2, .ref (am 0)), (1, .ref (ad 0)), (0, .ref b)] → W p l e room_1 s m #[Value.ref b] below meth c H1 locs1 (cells + 2) (slots + 20) Q (F0 m 1184 ls [])) :
    W p l e room_1 s m #[Value.ref b] below meth c H locs cells slots Q (F0 m 276 ls []) := by
  have hx := K.1
  have hb := K.2.1
  have hcs1 := hcs.1
  have hcs2 := hcs.2
  obtain ⟨code, r, ⟨g2, o2⟩, h2, fr, lo, hfr, hlo, hCw, hCm, hth, hout, hrel⟩ := hop (xs (i + 1)) g h o hR
  have hout : code = 0 → o2 = r.toInt64 := hout
  have hrel : Rel g2 h2 := hrel
  refine lv_aload_n hx hb dL_law_276 rfl (lv_at hl 3 rfl) ?_
  refine lv_aload_n hx hb dL_law_277 rfl (lv_at hl 4 rfl) ?_
  refine lv_iload hx hb dL_law_278 (lv_at hl 0 rfl) ?_
  refine lv_iconst (v := 1) hx hb dL_law_280 (by decide) ?_
  refine lv_iadd hx hb dL_law_281 ?_
  rw [show nI i + 1 = nI (i + 1) from nI_add i 1]
  refine l_sld K hS (by omega) (by omega) dL_law_282 ?_
  refine lv_aload_n hx hb dL_law_283 rfl (lv_at hl 1 rfl) ?_
  refine l_wrap (n := 3) (rest := []) K hA hW hM hS hCw (fx_w 309 (by decide +kernel) rfl) (fx_w 307 (by decide +kernel) rfl) (fx_w 308 (by decide +kernel) rfl) (fx_w 36 (by decide +kernel) rfl) ⟨by decide, by decide, by decide +kernel⟩ rfl ⟨by decide, by decide⟩ rfl hl.1 (Nat.le_of_ble_eq_true rfl) ⟨hcs1, hcs2⟩ dL_law_284 (fun H locs hW hM hS => ?_)
  refine lv_istore (lv' := [(5, .int code), (4, .int (nI i)), (3, .ref (ad 115)), (2, .ref (am 0)), (1, .ref (ad 0)), (0, .ref b)]) hx hb dL_law_287 hl (by decide) rfl (fun ls hl => ?_)
  refine lv_aload_n hx hb dL_law_289 rfl (lv_at hl 3 rfl) ?_
  refine lv_aload_n hx hb dL_law_290 rfl (lv_at hl 5 rfl) ?_
  refine lv_iload hx hb dL_law_291 (lv_at hl 1 rfl) ?_
  refine lv_iconst (v := 1) hx hb dL_law_293 (by decide) ?_
  refine lv_iadd hx hb dL_law_294 ?_
  rw [show nI i + 1 = nI (i + 1) from nI_add i 1]
  refine l_sld K hS (by omega) (by omega) dL_law_295 ?_
  refine l_model (rest := []) K hA hW hM hS hCm ok_L_89 rfl ⟨by show fr + 1 ≤ 13; omega, by show 8 + (3 + 11) + lo ≤ 502; omega⟩ rfl hl.1 (Nat.le_of_ble_eq_true rfl) ⟨by show cells + 2 + 0 ≤ room_1.cells; omega, by show slots + 20 + 0 ≤ room_1.slots; omega⟩ dL_law_296 (fun H locs hW hM hS => ?_)
  refine lv_istore (lv' := [(6, .int r), (5, .int code), (4, .int (nI i)), (3, .ref (ad 115)), (2, .ref (am 0)), (1, .ref (ad 0)), (0, .ref b)]) hx hb dL_law_299 hl (by decide) rfl (fun ls hl => ?_)
  refine lv_aload_n hx hb dL_law_301 rfl (lv_at hl 4 rfl) ?_
  refine l_model (rest := []) K hA hW hM hS (c_X4_thrown l Z am hA.2.1 h2) ok_L_78 rfl ⟨by decide, by decide⟩ rfl hl.1 (Nat.le_of_ble_eq_true rfl) ⟨by show cells + 2 + 0 ≤ room_1.cells; omega, by show slots + 20 + 0 ≤ room_1.slots; omega⟩ dL_law_302 (fun H locs hW hM hS => ?_)
  refine lv_iload hx hb dL_law_305 (lv_at hl 1 rfl) ?_
  refine lv_icmp_eq (tgt := 312) hx hb dL_law_307 (by decide) (fun _ => ?_) (fun c9 => absurd hth c9)
  refine lv_iload hx hb dL_law_312 (lv_at hl 1 rfl) ?_
  refine lv_if_ne (tgt := 329) hx hb dL_law_314 (by decide) (fun c9 => ?_) (fun c9 => ?_)
  · refine lv_goto (tgt := 1184) hx hb dL_law_329 (by decide) ?_
    exact kk g2 h2 o2 H locs ls hrel hW hM hS (lv_sub hl [2, 3, 4, 5, 6] rfl)
  have hc0 : code = 0 := c9
  have ho2 := hout hc0
  subst ho2
  refine lv_aload_n hx hb dL_law_317 rfl (lv_at hl 3 rfl) ?_
  refine lv_iconst (v := 0) hx hb dL_law_318 (by decide) ?_
  refine l_oget K hW dL_law_319 ?_
  refine lv_iload hx hb dL_law_320 (lv_at hl 0 rfl) ?_
  refine lv_i2l hx hb dL_law_322 rfl ?_
  refine l_lcmp hx hb dL_law_323 ?_
  refine lv_if_eq (tgt := 329) hx hb dL_law_324 (by decide) (fun _ => ?_) (fun c9 => absurd rfl c9)
  refine lv_goto (tgt := 1184) hx hb dL_law_329 (by decide) ?_
  exact kk g2 h2 r.toInt64 H locs ls hrel hW hM hS (lv_sub hl [2, 3, 4, 5, 6] rfl)

set_option maxHeartbeats 4000000 in
set_option maxRecDepth 100000 in
theorem law_ferry {p : Program} {l : Launch} {e : Env} {s : State} {m : MethodId} {below : List Frame} {meth : Method} {c : Code} {H : Heap} {locs : List Loc} {cells slots : Nat} {Q : State → Prop} {Z : fx_Z} {ad am : Nat → Nat} {b L i : Nat} {xs : Nat → Int32} {ls : Array Slot} {g h : St} {o : Int64} {Rel : St → St → Prop}
    (K : l_K p s m meth c b L xs Z) (hA : l_ad s ad am) (hop : ∀ a0 a1 : Int32, op_OK l Z ad am Rel yL_ferry cL_ferry 5 [(0, 10, 13, 15), (0, 10, 17, 21)] yX4_ferry cX4_ferry 4 (some .int) [.int a0, .int a1]) (hR : Rel g h) (hW : va_P Z.1 vwCl (iw 116 (wF ad Z.2.1 (g, o))) H) (hM : va_P Z.1 vwCl (iw 22 (mF am (Z.2.1 0) h)) H) (hS : va_S (lA s) s.heap H locs) (hi : i + 5 ≤ L) (hL : L ≤ 2560) (hcs : cells + 2 ≤ room_1.cells ∧ slots + 20 ≤ room_1.slots) (hl : lv_has ls 7 [(4, .int (nI i)), (3, .ref (ad 115)), (2, .ref (am 0)), (1, .ref (ad 0)), (0, .ref b)])
    (kk : ∀ (g2 h2 : St) (o2 : Int64) (H1 : Heap) (locs1 : List Loc) (ls : Array Slot), Rel g2 h2 → va_P Z.1 vwCl (iw 116 (wF ad Z.2.1 (g2, o2))) H1 → va_P Z.1 vwCl (iw 22 (mF am (Z.2.1 0) h2)) H1 → va_S (lA s) s.heap H1 locs1 → lv_has ls 7 [(4, .int (nI i)), (3, .ref (ad 115)), (2, .ref (am 0)), (1, .ref (ad 0)), (0, .ref b)] → W p l e room_1 s m #[Value.ref b] below meth c H1 locs1 (cells + 2) (slots + 20) Q (F0 m 1184 ls [])) :
    W p l e room_1 s m #[Value.ref b] below meth c H locs cells slots Q (F0 m 332 ls []) := by
  have hx := K.1
  have hb := K.2.1
  have hcs1 := hcs.1
  have hcs2 := hcs.2
  obtain ⟨code, r, ⟨g2, o2⟩, h2, fr, lo, hfr, hlo, hCw, hCm, hth, hout, hrel⟩ := hop (xs (i + 1)) (xs (i + 2)) g h o hR
  have hout : code = 0 → o2 = r.toInt64 := hout
  have hrel : Rel g2 h2 := hrel
  refine lv_aload_n hx hb dL_law_332 rfl (lv_at hl 3 rfl) ?_
  refine lv_aload_n hx hb dL_law_333 rfl (lv_at hl 4 rfl) ?_
  refine lv_iload hx hb dL_law_334 (lv_at hl 0 rfl) ?_
  refine lv_iconst (v := 1) hx hb dL_law_336 (by decide) ?_
  refine lv_iadd hx hb dL_law_337 ?_
  rw [show nI i + 1 = nI (i + 1) from nI_add i 1]
  refine l_sld K hS (by omega) (by omega) dL_law_338 ?_
  refine lv_aload_n hx hb dL_law_339 rfl (lv_at hl 4 rfl) ?_
  refine lv_iload hx hb dL_law_340 (lv_at hl 0 rfl) ?_
  refine lv_iconst (v := 2) hx hb dL_law_342 (by decide) ?_
  refine lv_iadd hx hb dL_law_343 ?_
  rw [show nI i + 2 = nI (i + 2) from nI_add i 2]
  refine l_sld K hS (by omega) (by omega) dL_law_344 ?_
  refine lv_aload_n hx hb dL_law_345 rfl (lv_at hl 1 rfl) ?_
  refine l_wrap (n := 4) (rest := []) K hA hW hM hS hCw (fx_w 327 (by decide +kernel) rfl) (fx_w 325 (by decide +kernel) rfl) (fx_w 326 (by decide +kernel) rfl) (fx_w 36 (by decide +kernel) rfl) ⟨by decide, by decide, by decide +kernel⟩ rfl ⟨by decide, by decide⟩ rfl hl.1 (Nat.le_of_ble_eq_true rfl) ⟨hcs1, hcs2⟩ dL_law_346 (fun H locs hW hM hS => ?_)
  refine lv_istore (lv' := [(5, .int code), (4, .int (nI i)), (3, .ref (ad 115)), (2, .ref (am 0)), (1, .ref (ad 0)), (0, .ref b)]) hx hb dL_law_349 hl (by decide) rfl (fun ls hl => ?_)
  refine lv_aload_n hx hb dL_law_351 rfl (lv_at hl 3 rfl) ?_
  refine lv_aload_n hx hb dL_law_352 rfl (lv_at hl 5 rfl) ?_
  refine lv_iload hx hb dL_law_353 (lv_at hl 1 rfl) ?_
  refine lv_iconst (v := 1) hx hb dL_law_355 (by decide) ?_
  refine lv_iadd hx hb dL_law_356 ?_
  rw [show nI i + 1 = nI (i + 1) from nI_add i 1]
  refine l_sld K hS (by omega) (by omega) dL_law_357 ?_
  refine lv_aload_n hx hb dL_law_358 rfl (lv_at hl 5 rfl) ?_
  refine lv_iload hx hb dL_law_359 (lv_at hl 1 rfl) ?_
  refine lv_iconst (v := 2) hx hb dL_law_361 (by decide) ?_
  refine lv_iadd hx hb dL_law_362 ?_
  rw [show nI i + 2 = nI (i + 2) from nI_add i 2]
  refine l_sld K hS (by omega) (by omega) dL_law_363 ?_
  refine l_model (rest := []) K hA hW hM hS hCm ok_L_92 rfl ⟨by show fr + 1 ≤ 13; omega, by show 8 + (4 + 11) + lo ≤ 502; omega⟩ rfl hl.1 (Nat.le_of_ble_eq_true rfl) ⟨by show cells + 2 + 0 ≤ room_1.cells; omega, by show slots + 20 + 0 ≤ room_1.slots; omega⟩ dL_law_364 (fun H locs hW hM hS => ?_)
  refine lv_istore (lv' := [(6, .int r), (5, .int code), (4, .int (nI i)), (3, .ref (ad 115)), (2, .ref (am 0)), (1, .ref (ad 0)), (0, .ref b)]) hx hb dL_law_367 hl (by decide) rfl (fun ls hl => ?_)
  refine lv_aload_n hx hb dL_law_369 rfl (lv_at hl 4 rfl) ?_
  refine l_model (rest := []) K hA hW hM hS (c_X4_thrown l Z am hA.2.1 h2) ok_L_78 rfl ⟨by decide, by decide⟩ rfl hl.1 (Nat.le_of_ble_eq_true rfl) ⟨by show cells + 2 + 0 ≤ room_1.cells; omega, by show slots + 20 + 0 ≤ room_1.slots; omega⟩ dL_law_370 (fun H locs hW hM hS => ?_)
  refine lv_iload hx hb dL_law_373 (lv_at hl 1 rfl) ?_
  refine lv_icmp_eq (tgt := 380) hx hb dL_law_375 (by decide) (fun _ => ?_) (fun c9 => absurd hth c9)
  refine lv_iload hx hb dL_law_380 (lv_at hl 1 rfl) ?_
  refine lv_if_ne (tgt := 397) hx hb dL_law_382 (by decide) (fun c9 => ?_) (fun c9 => ?_)
  · refine lv_goto (tgt := 1184) hx hb dL_law_397 (by decide) ?_
    exact kk g2 h2 o2 H locs ls hrel hW hM hS (lv_sub hl [2, 3, 4, 5, 6] rfl)
  have hc0 : code = 0 := c9
  have ho2 := hout hc0
  subst ho2
  refine lv_aload_n hx hb dL_law_385 rfl (lv_at hl 3 rfl) ?_
  refine lv_iconst (v := 0) hx hb dL_law_386 (by decide) ?_
  refine l_oget K hW dL_law_387 ?_
  refine lv_iload hx hb dL_law_388 (lv_at hl 0 rfl) ?_
  refine lv_i2l hx hb dL_law_390 rfl ?_
  refine l_lcmp hx hb dL_law_391 ?_
  refine lv_if_eq (tgt := 397) hx hb dL_law_392 (by decide) (fun _ => ?_) (fun c9 => absurd rfl c9)
  refine lv_goto (tgt := 1184) hx hb dL_law_397 (by decide) ?_
  exact kk g2 h2 r.toInt64 H locs ls hrel hW hM hS (lv_sub hl [2, 3, 4, 5, 6] rfl)

set_option maxHeartbeats 4000000 in
set_option maxRecDepth 100000 in
theorem law_seat {p : Program} {l : Launch} {e : Env} {s : State} {m : MethodId} {below : List Frame} {meth : Method} {c : Code} {H : Heap} {locs : List Loc} {cells slots : Nat} {Q : State → Prop} {Z : fx_Z} {ad am : Nat → Nat} {b L i : Nat} {xs : Nat → Int32} {ls : Array Slot} {g h : St} {o : Int64} {Rel : St → St → Prop}
    (K : l_K p s m meth c b L xs Z) (hA : l_ad s ad am) (hop : ∀ a0 a1 : Int32, op_OK l Z ad am Rel yL_seat cL_seat 5 [(0, 10, 13, 13), (0, 10, 17, 21)] yX4_seat cX4_seat 4 (some .int) [.int a0, .int a1]) (hR : Rel g h) (hW : va_P Z.1 vwCl (iw 116 (wF ad Z.2.1 (g, o))) H) (hM : va_P Z.1 vwCl (iw 22 (mF am (Z.2.1 0) h)) H) (hS : va_S (lA s) s.heap H locs) (hi : i + 5 ≤ L) (hL : L ≤ 2560) (hcs : cells + 2 ≤ room_1.cells ∧ slots + 20 ≤ room_1.slots) (hl : lv_has ls 7 [(4, .int (nI i)), (3, .ref (ad 115)), (2, .ref (am 0)), (1, .ref (ad 0)), (0, .ref b)])
    (kk : ∀ (g2 h2 : St) (o2 : Int64) (H1 : Heap) (locs1 : List Loc) (ls : Array Slot), Rel g2 h2 → va_P Z.1 vwCl (iw 116 (wF ad Z.2.1 (g2, o2))) H1 → va_P Z.1 vwCl (iw 22 (mF am (Z.2.1 0) h2)) H1 → va_S (lA s) s.heap H1 locs1 → lv_has ls 7 [(4, .int (nI i)), (3, .ref (ad 115)), (2, .ref (am 0)), (1, .ref (ad 0)), (0, .ref b)] → W p l e room_1 s m #[Value.ref b] below meth c H1 locs1 (cells + 2) (slots + 20) Q (F0 m 1184 ls [])) :
    W p l e room_1 s m #[Value.ref b] below meth c H locs cells slots Q (F0 m 400 ls []) := by
  have hx := K.1
  have hb := K.2.1
  have hcs1 := hcs.1
  have hcs2 := hcs.2
  obtain ⟨code, r, ⟨g2, o2⟩, h2, fr, lo, hfr, hlo, hCw, hCm, hth, hout, hrel⟩ := hop (xs (i + 1)) (xs (i + 2)) g h o hR
  have hout : code = 0 → o2 = r.toInt64 := hout
  have hrel : Rel g2 h2 := hrel
  refine lv_aload_n hx hb dL_law_400 rfl (lv_at hl 3 rfl) ?_
  refine lv_aload_n hx hb dL_law_401 rfl (lv_at hl 4 rfl) ?_
  refine lv_iload hx hb dL_law_402 (lv_at hl 0 rfl) ?_
  refine lv_iconst (v := 1) hx hb dL_law_404 (by decide) ?_
  refine lv_iadd hx hb dL_law_405 ?_
  rw [show nI i + 1 = nI (i + 1) from nI_add i 1]
  refine l_sld K hS (by omega) (by omega) dL_law_406 ?_
  refine lv_aload_n hx hb dL_law_407 rfl (lv_at hl 4 rfl) ?_
  refine lv_iload hx hb dL_law_408 (lv_at hl 0 rfl) ?_
  refine lv_iconst (v := 2) hx hb dL_law_410 (by decide) ?_
  refine lv_iadd hx hb dL_law_411 ?_
  rw [show nI i + 2 = nI (i + 2) from nI_add i 2]
  refine l_sld K hS (by omega) (by omega) dL_law_412 ?_
  refine lv_aload_n hx hb dL_law_413 rfl (lv_at hl 1 rfl) ?_
  refine l_wrap (n := 4) (rest := []) K hA hW hM hS hCw (fx_w 337 (by decide +kernel) rfl) (fx_w 335 (by decide +kernel) rfl) (fx_w 336 (by decide +kernel) rfl) (fx_w 36 (by decide +kernel) rfl) ⟨by decide, by decide, by decide +kernel⟩ rfl ⟨by decide, by decide⟩ rfl hl.1 (Nat.le_of_ble_eq_true rfl) ⟨hcs1, hcs2⟩ dL_law_414 (fun H locs hW hM hS => ?_)
  refine lv_istore (lv' := [(5, .int code), (4, .int (nI i)), (3, .ref (ad 115)), (2, .ref (am 0)), (1, .ref (ad 0)), (0, .ref b)]) hx hb dL_law_417 hl (by decide) rfl (fun ls hl => ?_)
  refine lv_aload_n hx hb dL_law_419 rfl (lv_at hl 3 rfl) ?_
  refine lv_aload_n hx hb dL_law_420 rfl (lv_at hl 5 rfl) ?_
  refine lv_iload hx hb dL_law_421 (lv_at hl 1 rfl) ?_
  refine lv_iconst (v := 1) hx hb dL_law_423 (by decide) ?_
  refine lv_iadd hx hb dL_law_424 ?_
  rw [show nI i + 1 = nI (i + 1) from nI_add i 1]
  refine l_sld K hS (by omega) (by omega) dL_law_425 ?_
  refine lv_aload_n hx hb dL_law_426 rfl (lv_at hl 5 rfl) ?_
  refine lv_iload hx hb dL_law_427 (lv_at hl 1 rfl) ?_
  refine lv_iconst (v := 2) hx hb dL_law_429 (by decide) ?_
  refine lv_iadd hx hb dL_law_430 ?_
  rw [show nI i + 2 = nI (i + 2) from nI_add i 2]
  refine l_sld K hS (by omega) (by omega) dL_law_431 ?_
  refine l_model (rest := []) K hA hW hM hS hCm ok_L_95 rfl ⟨by show fr + 1 ≤ 13; omega, by show 8 + (4 + 11) + lo ≤ 502; omega⟩ rfl hl.1 (Nat.le_of_ble_eq_true rfl) ⟨by show cells + 2 + 0 ≤ room_1.cells; omega, by show slots + 20 + 0 ≤ room_1.slots; omega⟩ dL_law_432 (fun H locs hW hM hS => ?_)
  refine lv_istore (lv' := [(6, .int r), (5, .int code), (4, .int (nI i)), (3, .ref (ad 115)), (2, .ref (am 0)), (1, .ref (ad 0)), (0, .ref b)]) hx hb dL_law_435 hl (by decide) rfl (fun ls hl => ?_)
  refine lv_aload_n hx hb dL_law_437 rfl (lv_at hl 4 rfl) ?_
  refine l_model (rest := []) K hA hW hM hS (c_X4_thrown l Z am hA.2.1 h2) ok_L_78 rfl ⟨by decide, by decide⟩ rfl hl.1 (Nat.le_of_ble_eq_true rfl) ⟨by show cells + 2 + 0 ≤ room_1.cells; omega, by show slots + 20 + 0 ≤ room_1.slots; omega⟩ dL_law_438 (fun H locs hW hM hS => ?_)
  refine lv_iload hx hb dL_law_441 (lv_at hl 1 rfl) ?_
  refine lv_icmp_eq (tgt := 448) hx hb dL_law_443 (by decide) (fun _ => ?_) (fun c9 => absurd hth c9)
  refine lv_iload hx hb dL_law_448 (lv_at hl 1 rfl) ?_
  refine lv_if_ne (tgt := 465) hx hb dL_law_450 (by decide) (fun c9 => ?_) (fun c9 => ?_)
  · refine lv_goto (tgt := 1184) hx hb dL_law_465 (by decide) ?_
    exact kk g2 h2 o2 H locs ls hrel hW hM hS (lv_sub hl [2, 3, 4, 5, 6] rfl)
  have hc0 : code = 0 := c9
  have ho2 := hout hc0
  subst ho2
  refine lv_aload_n hx hb dL_law_453 rfl (lv_at hl 3 rfl) ?_
  refine lv_iconst (v := 0) hx hb dL_law_454 (by decide) ?_
  refine l_oget K hW dL_law_455 ?_
  refine lv_iload hx hb dL_law_456 (lv_at hl 0 rfl) ?_
  refine lv_i2l hx hb dL_law_458 rfl ?_
  refine l_lcmp hx hb dL_law_459 ?_
  refine lv_if_eq (tgt := 465) hx hb dL_law_460 (by decide) (fun _ => ?_) (fun c9 => absurd rfl c9)
  refine lv_goto (tgt := 1184) hx hb dL_law_465 (by decide) ?_
  exact kk g2 h2 r.toInt64 H locs ls hrel hW hM hS (lv_sub hl [2, 3, 4, 5, 6] rfl)

set_option maxHeartbeats 4000000 in
set_option maxRecDepth 100000 in
theorem law_leaveSeat {p : Program} {l : Launch} {e : Env} {s : State} {m : MethodId} {below : List Frame} {meth : Method} {c : Code} {H : Heap} {locs : List Loc} {cells slots : Nat} {Q : State → Prop} {Z : fx_Z} {ad am : Nat → Nat} {b L i : Nat} {xs : Nat → Int32} {ls : Array Slot} {g h : St} {o : Int64} {Rel : St → St → Prop}
    (K : l_K p s m meth c b L xs Z) (hA : l_ad s ad am) (hop : ∀ a0 a1 : Int32, op_OK l Z ad am Rel yL_leaveSeat cL_leaveSeat 5 [(0, 10, 13, 13), (0, 10, 17, 21)] yX4_leaveSeat cX4_leaveSeat 6 (some .int) [.int a0, .int a1]) (hR : Rel g h) (hW : va_P Z.1 vwCl (iw 116 (wF ad Z.2.1 (g, o))) H) (hM : va_P Z.1 vwCl (iw 22 (mF am (Z.2.1 0) h)) H) (hS : va_S (lA s) s.heap H locs) (hi : i + 5 ≤ L) (hL : L ≤ 2560) (hcs : cells + 2 ≤ room_1.cells ∧ slots + 20 ≤ room_1.slots) (hl : lv_has ls 7 [(4, .int (nI i)), (3, .ref (ad 115)), (2, .ref (am 0)), (1, .ref (ad 0)), (0, .ref b)])
    (kk : ∀ (g2 h2 : St) (o2 : Int64) (H1 : Heap) (locs1 : List Loc) (ls : Array Slot), Rel g2 h2 → va_P Z.1 vwCl (iw 116 (wF ad Z.2.1 (g2, o2))) H1 → va_P Z.1 vwCl (iw 22 (mF am (Z.2.1 0) h2)) H1 → va_S (lA s) s.heap H1 locs1 → lv_has ls 7 [(4, .int (nI i)), (3, .ref (ad 115)), (2, .ref (am 0)), (1, .ref (ad 0)), (0, .ref b)] → W p l e room_1 s m #[Value.ref b] below meth c H1 locs1 (cells + 2) (slots + 20) Q (F0 m 1184 ls [])) :
    W p l e room_1 s m #[Value.ref b] below meth c H locs cells slots Q (F0 m 468 ls []) := by
  have hx := K.1
  have hb := K.2.1
  have hcs1 := hcs.1
  have hcs2 := hcs.2
  obtain ⟨code, r, ⟨g2, o2⟩, h2, fr, lo, hfr, hlo, hCw, hCm, hth, hout, hrel⟩ := hop (xs (i + 1)) (xs (i + 2)) g h o hR
  have hout : code = 0 → o2 = r.toInt64 := hout
  have hrel : Rel g2 h2 := hrel
  refine lv_aload_n hx hb dL_law_468 rfl (lv_at hl 3 rfl) ?_
  refine lv_aload_n hx hb dL_law_469 rfl (lv_at hl 4 rfl) ?_
  refine lv_iload hx hb dL_law_470 (lv_at hl 0 rfl) ?_
  refine lv_iconst (v := 1) hx hb dL_law_472 (by decide) ?_
  refine lv_iadd hx hb dL_law_473 ?_
  rw [show nI i + 1 = nI (i + 1) from nI_add i 1]
  refine l_sld K hS (by omega) (by omega) dL_law_474 ?_
  refine lv_aload_n hx hb dL_law_475 rfl (lv_at hl 4 rfl) ?_
  refine lv_iload hx hb dL_law_476 (lv_at hl 0 rfl) ?_
  refine lv_iconst (v := 2) hx hb dL_law_478 (by decide) ?_
  refine lv_iadd hx hb dL_law_479 ?_
  rw [show nI i + 2 = nI (i + 2) from nI_add i 2]
  refine l_sld K hS (by omega) (by omega) dL_law_480 ?_
  refine lv_aload_n hx hb dL_law_481 rfl (lv_at hl 1 rfl) ?_
  refine l_wrap (n := 4) (rest := []) K hA hW hM hS hCw (fx_w 364 (by decide +kernel) rfl) (fx_w 362 (by decide +kernel) rfl) (fx_w 363 (by decide +kernel) rfl) (fx_w 36 (by decide +kernel) rfl) ⟨by decide, by decide, by decide +kernel⟩ rfl ⟨by decide, by decide⟩ rfl hl.1 (Nat.le_of_ble_eq_true rfl) ⟨hcs1, hcs2⟩ dL_law_482 (fun H locs hW hM hS => ?_)
  refine lv_istore (lv' := [(5, .int code), (4, .int (nI i)), (3, .ref (ad 115)), (2, .ref (am 0)), (1, .ref (ad 0)), (0, .ref b)]) hx hb dL_law_485 hl (by decide) rfl (fun ls hl => ?_)
  refine lv_aload_n hx hb dL_law_487 rfl (lv_at hl 3 rfl) ?_
  refine lv_aload_n hx hb dL_law_488 rfl (lv_at hl 5 rfl) ?_
  refine lv_iload hx hb dL_law_489 (lv_at hl 1 rfl) ?_
  refine lv_iconst (v := 1) hx hb dL_law_491 (by decide) ?_
  refine lv_iadd hx hb dL_law_492 ?_
  rw [show nI i + 1 = nI (i + 1) from nI_add i 1]
  refine l_sld K hS (by omega) (by omega) dL_law_493 ?_
  refine lv_aload_n hx hb dL_law_494 rfl (lv_at hl 5 rfl) ?_
  refine lv_iload hx hb dL_law_495 (lv_at hl 1 rfl) ?_
  refine lv_iconst (v := 2) hx hb dL_law_497 (by decide) ?_
  refine lv_iadd hx hb dL_law_498 ?_
  rw [show nI i + 2 = nI (i + 2) from nI_add i 2]
  refine l_sld K hS (by omega) (by omega) dL_law_499 ?_
  refine l_model (rest := []) K hA hW hM hS hCm ok_L_98 rfl ⟨by show fr + 1 ≤ 13; omega, by show 8 + (6 + 11) + lo ≤ 502; omega⟩ rfl hl.1 (Nat.le_of_ble_eq_true rfl) ⟨by show cells + 2 + 0 ≤ room_1.cells; omega, by show slots + 20 + 0 ≤ room_1.slots; omega⟩ dL_law_500 (fun H locs hW hM hS => ?_)
  refine lv_istore (lv' := [(6, .int r), (5, .int code), (4, .int (nI i)), (3, .ref (ad 115)), (2, .ref (am 0)), (1, .ref (ad 0)), (0, .ref b)]) hx hb dL_law_503 hl (by decide) rfl (fun ls hl => ?_)
  refine lv_aload_n hx hb dL_law_505 rfl (lv_at hl 4 rfl) ?_
  refine l_model (rest := []) K hA hW hM hS (c_X4_thrown l Z am hA.2.1 h2) ok_L_78 rfl ⟨by decide, by decide⟩ rfl hl.1 (Nat.le_of_ble_eq_true rfl) ⟨by show cells + 2 + 0 ≤ room_1.cells; omega, by show slots + 20 + 0 ≤ room_1.slots; omega⟩ dL_law_506 (fun H locs hW hM hS => ?_)
  refine lv_iload hx hb dL_law_509 (lv_at hl 1 rfl) ?_
  refine lv_icmp_eq (tgt := 516) hx hb dL_law_511 (by decide) (fun _ => ?_) (fun c9 => absurd hth c9)
  refine lv_iload hx hb dL_law_516 (lv_at hl 1 rfl) ?_
  refine lv_if_ne (tgt := 533) hx hb dL_law_518 (by decide) (fun c9 => ?_) (fun c9 => ?_)
  · refine lv_goto (tgt := 1184) hx hb dL_law_533 (by decide) ?_
    exact kk g2 h2 o2 H locs ls hrel hW hM hS (lv_sub hl [2, 3, 4, 5, 6] rfl)
  have hc0 : code = 0 := c9
  have ho2 := hout hc0
  subst ho2
  refine lv_aload_n hx hb dL_law_521 rfl (lv_at hl 3 rfl) ?_
  refine lv_iconst (v := 0) hx hb dL_law_522 (by decide) ?_
  refine l_oget K hW dL_law_523 ?_
  refine lv_iload hx hb dL_law_524 (lv_at hl 0 rfl) ?_
  refine lv_i2l hx hb dL_law_526 rfl ?_
  refine l_lcmp hx hb dL_law_527 ?_
  refine lv_if_eq (tgt := 533) hx hb dL_law_528 (by decide) (fun _ => ?_) (fun c9 => absurd rfl c9)
  refine lv_goto (tgt := 1184) hx hb dL_law_533 (by decide) ?_
  exact kk g2 h2 r.toInt64 H locs ls hrel hW hM hS (lv_sub hl [2, 3, 4, 5, 6] rfl)

set_option maxHeartbeats 4000000 in
set_option maxRecDepth 100000 in
theorem law_aboard {p : Program} {l : Launch} {e : Env} {s : State} {m : MethodId} {below : List Frame} {meth : Method} {c : Code} {H : Heap} {locs : List Loc} {cells slots : Nat} {Q : State → Prop} {Z : fx_Z} {ad am : Nat → Nat} {b L i : Nat} {xs : Nat → Int32} {ls : Array Slot} {g h : St} {o : Int64} {Rel : St → St → Prop}
    (K : l_K p s m meth c b L xs Z) (hA : l_ad s ad am) (hop : ∀ a0 a1 : Int32, op_OK l Z ad am Rel yL_aboard cL_aboard 5 [(0, 10, 13, 13), (0, 10, 17, 21)] yX4_aboard cX4_aboard 7 (some .int) [.int a0, .int a1]) (hR : Rel g h) (hW : va_P Z.1 vwCl (iw 116 (wF ad Z.2.1 (g, o))) H) (hM : va_P Z.1 vwCl (iw 22 (mF am (Z.2.1 0) h)) H) (hS : va_S (lA s) s.heap H locs) (hi : i + 5 ≤ L) (hL : L ≤ 2560) (hcs : cells + 2 ≤ room_1.cells ∧ slots + 20 ≤ room_1.slots) (hl : lv_has ls 7 [(4, .int (nI i)), (3, .ref (ad 115)), (2, .ref (am 0)), (1, .ref (ad 0)), (0, .ref b)])
    (kk : ∀ (g2 h2 : St) (o2 : Int64) (H1 : Heap) (locs1 : List Loc) (ls : Array Slot), Rel g2 h2 → va_P Z.1 vwCl (iw 116 (wF ad Z.2.1 (g2, o2))) H1 → va_P Z.1 vwCl (iw 22 (mF am (Z.2.1 0) h2)) H1 → va_S (lA s) s.heap H1 locs1 → lv_has ls 7 [(4, .int (nI i)), (3, .ref (ad 115)), (2, .ref (am 0)), (1, .ref (ad 0)), (0, .ref b)] → W p l e room_1 s m #[Value.ref b] below meth c H1 locs1 (cells + 2) (slots + 20) Q (F0 m 1184 ls [])) :
    W p l e room_1 s m #[Value.ref b] below meth c H locs cells slots Q (F0 m 536 ls []) := by
  have hx := K.1
  have hb := K.2.1
  have hcs1 := hcs.1
  have hcs2 := hcs.2
  obtain ⟨code, r, ⟨g2, o2⟩, h2, fr, lo, hfr, hlo, hCw, hCm, hth, hout, hrel⟩ := hop (xs (i + 1)) (xs (i + 2)) g h o hR
  have hout : code = 0 → o2 = r.toInt64 := hout
  have hrel : Rel g2 h2 := hrel
  refine lv_aload_n hx hb dL_law_536 rfl (lv_at hl 3 rfl) ?_
  refine lv_aload_n hx hb dL_law_537 rfl (lv_at hl 4 rfl) ?_
  refine lv_iload hx hb dL_law_538 (lv_at hl 0 rfl) ?_
  refine lv_iconst (v := 1) hx hb dL_law_540 (by decide) ?_
  refine lv_iadd hx hb dL_law_541 ?_
  rw [show nI i + 1 = nI (i + 1) from nI_add i 1]
  refine l_sld K hS (by omega) (by omega) dL_law_542 ?_
  refine lv_aload_n hx hb dL_law_543 rfl (lv_at hl 4 rfl) ?_
  refine lv_iload hx hb dL_law_544 (lv_at hl 0 rfl) ?_
  refine lv_iconst (v := 2) hx hb dL_law_546 (by decide) ?_
  refine lv_iadd hx hb dL_law_547 ?_
  rw [show nI i + 2 = nI (i + 2) from nI_add i 2]
  refine l_sld K hS (by omega) (by omega) dL_law_548 ?_
  refine lv_aload_n hx hb dL_law_549 rfl (lv_at hl 1 rfl) ?_
  refine l_wrap (n := 4) (rest := []) K hA hW hM hS hCw (fx_w 388 (by decide +kernel) rfl) (fx_w 386 (by decide +kernel) rfl) (fx_w 387 (by decide +kernel) rfl) (fx_w 36 (by decide +kernel) rfl) ⟨by decide, by decide, by decide +kernel⟩ rfl ⟨by decide, by decide⟩ rfl hl.1 (Nat.le_of_ble_eq_true rfl) ⟨hcs1, hcs2⟩ dL_law_550 (fun H locs hW hM hS => ?_)
  refine lv_istore (lv' := [(5, .int code), (4, .int (nI i)), (3, .ref (ad 115)), (2, .ref (am 0)), (1, .ref (ad 0)), (0, .ref b)]) hx hb dL_law_553 hl (by decide) rfl (fun ls hl => ?_)
  refine lv_aload_n hx hb dL_law_555 rfl (lv_at hl 3 rfl) ?_
  refine lv_aload_n hx hb dL_law_556 rfl (lv_at hl 5 rfl) ?_
  refine lv_iload hx hb dL_law_557 (lv_at hl 1 rfl) ?_
  refine lv_iconst (v := 1) hx hb dL_law_559 (by decide) ?_
  refine lv_iadd hx hb dL_law_560 ?_
  rw [show nI i + 1 = nI (i + 1) from nI_add i 1]
  refine l_sld K hS (by omega) (by omega) dL_law_561 ?_
  refine lv_aload_n hx hb dL_law_562 rfl (lv_at hl 5 rfl) ?_
  refine lv_iload hx hb dL_law_563 (lv_at hl 1 rfl) ?_
  refine lv_iconst (v := 2) hx hb dL_law_565 (by decide) ?_
  refine lv_iadd hx hb dL_law_566 ?_
  rw [show nI i + 2 = nI (i + 2) from nI_add i 2]
  refine l_sld K hS (by omega) (by omega) dL_law_567 ?_
  refine l_model (rest := []) K hA hW hM hS hCm ok_L_101 rfl ⟨by show fr + 1 ≤ 13; omega, by show 8 + (7 + 11) + lo ≤ 502; omega⟩ rfl hl.1 (Nat.le_of_ble_eq_true rfl) ⟨by show cells + 2 + 0 ≤ room_1.cells; omega, by show slots + 20 + 0 ≤ room_1.slots; omega⟩ dL_law_568 (fun H locs hW hM hS => ?_)
  refine lv_istore (lv' := [(6, .int r), (5, .int code), (4, .int (nI i)), (3, .ref (ad 115)), (2, .ref (am 0)), (1, .ref (ad 0)), (0, .ref b)]) hx hb dL_law_571 hl (by decide) rfl (fun ls hl => ?_)
  refine lv_aload_n hx hb dL_law_573 rfl (lv_at hl 4 rfl) ?_
  refine l_model (rest := []) K hA hW hM hS (c_X4_thrown l Z am hA.2.1 h2) ok_L_78 rfl ⟨by decide, by decide⟩ rfl hl.1 (Nat.le_of_ble_eq_true rfl) ⟨by show cells + 2 + 0 ≤ room_1.cells; omega, by show slots + 20 + 0 ≤ room_1.slots; omega⟩ dL_law_574 (fun H locs hW hM hS => ?_)
  refine lv_iload hx hb dL_law_577 (lv_at hl 1 rfl) ?_
  refine lv_icmp_eq (tgt := 584) hx hb dL_law_579 (by decide) (fun _ => ?_) (fun c9 => absurd hth c9)
  refine lv_iload hx hb dL_law_584 (lv_at hl 1 rfl) ?_
  refine lv_if_ne (tgt := 601) hx hb dL_law_586 (by decide) (fun c9 => ?_) (fun c9 => ?_)
  · refine lv_goto (tgt := 1184) hx hb dL_law_601 (by decide) ?_
    exact kk g2 h2 o2 H locs ls hrel hW hM hS (lv_sub hl [2, 3, 4, 5, 6] rfl)
  have hc0 : code = 0 := c9
  have ho2 := hout hc0
  subst ho2
  refine lv_aload_n hx hb dL_law_589 rfl (lv_at hl 3 rfl) ?_
  refine lv_iconst (v := 0) hx hb dL_law_590 (by decide) ?_
  refine l_oget K hW dL_law_591 ?_
  refine lv_iload hx hb dL_law_592 (lv_at hl 0 rfl) ?_
  refine lv_i2l hx hb dL_law_594 rfl ?_
  refine l_lcmp hx hb dL_law_595 ?_
  refine lv_if_eq (tgt := 601) hx hb dL_law_596 (by decide) (fun _ => ?_) (fun c9 => absurd rfl c9)
  refine lv_goto (tgt := 1184) hx hb dL_law_601 (by decide) ?_
  exact kk g2 h2 r.toInt64 H locs ls hrel hW hM hS (lv_sub hl [2, 3, 4, 5, 6] rfl)

set_option maxHeartbeats 4000000 in
set_option maxRecDepth 100000 in
theorem law_stamp {p : Program} {l : Launch} {e : Env} {s : State} {m : MethodId} {below : List Frame} {meth : Method} {c : Code} {H : Heap} {locs : List Loc} {cells slots : Nat} {Q : State → Prop} {Z : fx_Z} {ad am : Nat → Nat} {b L i : Nat} {xs : Nat → Int32} {ls : Array Slot} {g h : St} {o : Int64} {Rel : St → St → Prop}
    (K : l_K p s m meth c b L xs Z) (hA : l_ad s ad am) (hop : ∀ a0 a1 : Int32, op_OK l Z ad am Rel yL_stamp cL_stamp 5 [(0, 10, 13, 13), (0, 10, 17, 21)] yX4_stamp cX4_stamp 5 (some .int) [.int a0, .int a1]) (hR : Rel g h) (hW : va_P Z.1 vwCl (iw 116 (wF ad Z.2.1 (g, o))) H) (hM : va_P Z.1 vwCl (iw 22 (mF am (Z.2.1 0) h)) H) (hS : va_S (lA s) s.heap H locs) (hi : i + 5 ≤ L) (hL : L ≤ 2560) (hcs : cells + 2 ≤ room_1.cells ∧ slots + 20 ≤ room_1.slots) (hl : lv_has ls 7 [(4, .int (nI i)), (3, .ref (ad 115)), (2, .ref (am 0)), (1, .ref (ad 0)), (0, .ref b)])
    (kk : ∀ (g2 h2 : St) (o2 : Int64) (H1 : Heap) (locs1 : List Loc) (ls : Array Slot), Rel g2 h2 → va_P Z.1 vwCl (iw 116 (wF ad Z.2.1 (g2, o2))) H1 → va_P Z.1 vwCl (iw 22 (mF am (Z.2.1 0) h2)) H1 → va_S (lA s) s.heap H1 locs1 → lv_has ls 7 [(4, .int (nI i)), (3, .ref (ad 115)), (2, .ref (am 0)), (1, .ref (ad 0)), (0, .ref b)] → W p l e room_1 s m #[Value.ref b] below meth c H1 locs1 (cells + 2) (slots + 20) Q (F0 m 1184 ls [])) :
    W p l e room_1 s m #[Value.ref b] below meth c H locs cells slots Q (F0 m 604 ls []) := by
  have hx := K.1
  have hb := K.2.1
  have hcs1 := hcs.1
  have hcs2 := hcs.2
  obtain ⟨code, r, ⟨g2, o2⟩, h2, fr, lo, hfr, hlo, hCw, hCm, hth, hout, hrel⟩ := hop (xs (i + 1)) (xs (i + 2)) g h o hR
  have hout : code = 0 → o2 = r.toInt64 := hout
  have hrel : Rel g2 h2 := hrel
  refine lv_aload_n hx hb dL_law_604 rfl (lv_at hl 3 rfl) ?_
  refine lv_aload_n hx hb dL_law_605 rfl (lv_at hl 4 rfl) ?_
  refine lv_iload hx hb dL_law_606 (lv_at hl 0 rfl) ?_
  refine lv_iconst (v := 1) hx hb dL_law_608 (by decide) ?_
  refine lv_iadd hx hb dL_law_609 ?_
  rw [show nI i + 1 = nI (i + 1) from nI_add i 1]
  refine l_sld K hS (by omega) (by omega) dL_law_610 ?_
  refine lv_aload_n hx hb dL_law_611 rfl (lv_at hl 4 rfl) ?_
  refine lv_iload hx hb dL_law_612 (lv_at hl 0 rfl) ?_
  refine lv_iconst (v := 2) hx hb dL_law_614 (by decide) ?_
  refine lv_iadd hx hb dL_law_615 ?_
  rw [show nI i + 2 = nI (i + 2) from nI_add i 2]
  refine l_sld K hS (by omega) (by omega) dL_law_616 ?_
  refine lv_aload_n hx hb dL_law_617 rfl (lv_at hl 1 rfl) ?_
  refine l_wrap (n := 4) (rest := []) K hA hW hM hS hCw (fx_w 405 (by decide +kernel) rfl) (fx_w 403 (by decide +kernel) rfl) (fx_w 404 (by decide +kernel) rfl) (fx_w 36 (by decide +kernel) rfl) ⟨by decide, by decide, by decide +kernel⟩ rfl ⟨by decide, by decide⟩ rfl hl.1 (Nat.le_of_ble_eq_true rfl) ⟨hcs1, hcs2⟩ dL_law_618 (fun H locs hW hM hS => ?_)
  refine lv_istore (lv' := [(5, .int code), (4, .int (nI i)), (3, .ref (ad 115)), (2, .ref (am 0)), (1, .ref (ad 0)), (0, .ref b)]) hx hb dL_law_621 hl (by decide) rfl (fun ls hl => ?_)
  refine lv_aload_n hx hb dL_law_623 rfl (lv_at hl 3 rfl) ?_
  refine lv_aload_n hx hb dL_law_624 rfl (lv_at hl 5 rfl) ?_
  refine lv_iload hx hb dL_law_625 (lv_at hl 1 rfl) ?_
  refine lv_iconst (v := 1) hx hb dL_law_627 (by decide) ?_
  refine lv_iadd hx hb dL_law_628 ?_
  rw [show nI i + 1 = nI (i + 1) from nI_add i 1]
  refine l_sld K hS (by omega) (by omega) dL_law_629 ?_
  refine lv_aload_n hx hb dL_law_630 rfl (lv_at hl 5 rfl) ?_
  refine lv_iload hx hb dL_law_631 (lv_at hl 1 rfl) ?_
  refine lv_iconst (v := 2) hx hb dL_law_633 (by decide) ?_
  refine lv_iadd hx hb dL_law_634 ?_
  rw [show nI i + 2 = nI (i + 2) from nI_add i 2]
  refine l_sld K hS (by omega) (by omega) dL_law_635 ?_
  refine l_model (rest := []) K hA hW hM hS hCm ok_L_104 rfl ⟨by show fr + 1 ≤ 13; omega, by show 8 + (5 + 11) + lo ≤ 502; omega⟩ rfl hl.1 (Nat.le_of_ble_eq_true rfl) ⟨by show cells + 2 + 0 ≤ room_1.cells; omega, by show slots + 20 + 0 ≤ room_1.slots; omega⟩ dL_law_636 (fun H locs hW hM hS => ?_)
  refine lv_istore (lv' := [(6, .int r), (5, .int code), (4, .int (nI i)), (3, .ref (ad 115)), (2, .ref (am 0)), (1, .ref (ad 0)), (0, .ref b)]) hx hb dL_law_639 hl (by decide) rfl (fun ls hl => ?_)
  refine lv_aload_n hx hb dL_law_641 rfl (lv_at hl 4 rfl) ?_
  refine l_model (rest := []) K hA hW hM hS (c_X4_thrown l Z am hA.2.1 h2) ok_L_78 rfl ⟨by decide, by decide⟩ rfl hl.1 (Nat.le_of_ble_eq_true rfl) ⟨by show cells + 2 + 0 ≤ room_1.cells; omega, by show slots + 20 + 0 ≤ room_1.slots; omega⟩ dL_law_642 (fun H locs hW hM hS => ?_)
  refine lv_iload hx hb dL_law_645 (lv_at hl 1 rfl) ?_
  refine lv_icmp_eq (tgt := 652) hx hb dL_law_647 (by decide) (fun _ => ?_) (fun c9 => absurd hth c9)
  refine lv_iload hx hb dL_law_652 (lv_at hl 1 rfl) ?_
  refine lv_if_ne (tgt := 669) hx hb dL_law_654 (by decide) (fun c9 => ?_) (fun c9 => ?_)
  · refine lv_goto (tgt := 1184) hx hb dL_law_669 (by decide) ?_
    exact kk g2 h2 o2 H locs ls hrel hW hM hS (lv_sub hl [2, 3, 4, 5, 6] rfl)
  have hc0 : code = 0 := c9
  have ho2 := hout hc0
  subst ho2
  refine lv_aload_n hx hb dL_law_657 rfl (lv_at hl 3 rfl) ?_
  refine lv_iconst (v := 0) hx hb dL_law_658 (by decide) ?_
  refine l_oget K hW dL_law_659 ?_
  refine lv_iload hx hb dL_law_660 (lv_at hl 0 rfl) ?_
  refine lv_i2l hx hb dL_law_662 rfl ?_
  refine l_lcmp hx hb dL_law_663 ?_
  refine lv_if_eq (tgt := 669) hx hb dL_law_664 (by decide) (fun _ => ?_) (fun c9 => absurd rfl c9)
  refine lv_goto (tgt := 1184) hx hb dL_law_669 (by decide) ?_
  exact kk g2 h2 r.toInt64 H locs ls hrel hW hM hS (lv_sub hl [2, 3, 4, 5, 6] rfl)

set_option maxHeartbeats 4000000 in
set_option maxRecDepth 100000 in
theorem law_check {p : Program} {l : Launch} {e : Env} {s : State} {m : MethodId} {below : List Frame} {meth : Method} {c : Code} {H : Heap} {locs : List Loc} {cells slots : Nat} {Q : State → Prop} {Z : fx_Z} {ad am : Nat → Nat} {b L i : Nat} {xs : Nat → Int32} {ls : Array Slot} {g h : St} {o : Int64} {Rel : St → St → Prop}
    (K : l_K p s m meth c b L xs Z) (hA : l_ad s ad am) (hop : ∀ a0 a1 : Int32, a1 = 0 ∨ a1 = 1 → op_OK l Z ad am Rel yL_check cL_check 5 [(0, 10, 13, 13), (0, 10, 17, 21)] yX4_check cX4_check 4 (some .int) [.int a0, .int a1]) (hR : Rel g h) (hW : va_P Z.1 vwCl (iw 116 (wF ad Z.2.1 (g, o))) H) (hM : va_P Z.1 vwCl (iw 22 (mF am (Z.2.1 0) h)) H) (hS : va_S (lA s) s.heap H locs) (hi : i + 5 ≤ L) (hL : L ≤ 2560) (hcs : cells + 2 ≤ room_1.cells ∧ slots + 20 ≤ room_1.slots) (hl : lv_has ls 7 [(4, .int (nI i)), (3, .ref (ad 115)), (2, .ref (am 0)), (1, .ref (ad 0)), (0, .ref b)])
    (kk : ∀ (g2 h2 : St) (o2 : Int64) (H1 : Heap) (locs1 : List Loc) (ls : Array Slot), Rel g2 h2 → va_P Z.1 vwCl (iw 116 (wF ad Z.2.1 (g2, o2))) H1 → va_P Z.1 vwCl (iw 22 (mF am (Z.2.1 0) h2)) H1 → va_S (lA s) s.heap H1 locs1 → lv_has ls 7 [(4, .int (nI i)), (3, .ref (ad 115)), (2, .ref (am 0)), (1, .ref (ad 0)), (0, .ref b)] → W p l e room_1 s m #[Value.ref b] below meth c H1 locs1 (cells + 2) (slots + 20) Q (F0 m 1184 ls [])) :
    W p l e room_1 s m #[Value.ref b] below meth c H locs cells slots Q (F0 m 672 ls []) := by
  have hx := K.1
  have hb := K.2.1
  have hcs1 := hcs.1
  have hcs2 := hcs.2
  by_cases hz : xs (i + 2) = 0
  · obtain ⟨code, r, ⟨g2, o2⟩, h2, fr, lo, hfr, hlo, hCw, hCm, hth, hout, hrel⟩ := hop (xs (i + 1)) 0 (Or.inl rfl) g h o hR
    have hout : code = 0 → o2 = r.toInt64 := hout
    have hrel : Rel g2 h2 := hrel
    refine lv_aload_n hx hb dL_law_672 rfl (lv_at hl 3 rfl) ?_
    refine lv_aload_n hx hb dL_law_673 rfl (lv_at hl 4 rfl) ?_
    refine lv_iload hx hb dL_law_674 (lv_at hl 0 rfl) ?_
    refine lv_iconst (v := 1) hx hb dL_law_676 (by decide) ?_
    refine lv_iadd hx hb dL_law_677 ?_
    rw [show nI i + 1 = nI (i + 1) from nI_add i 1]
    refine l_sld K hS (by omega) (by omega) dL_law_678 ?_
    refine lv_aload_n hx hb dL_law_679 rfl (lv_at hl 4 rfl) ?_
    refine lv_iload hx hb dL_law_680 (lv_at hl 0 rfl) ?_
    refine lv_iconst (v := 2) hx hb dL_law_682 (by decide) ?_
    refine lv_iadd hx hb dL_law_683 ?_
    rw [show nI i + 2 = nI (i + 2) from nI_add i 2]
    refine l_sld K hS (by omega) (by omega) dL_law_684 ?_
    refine lv_if_eq (tgt := 692) hx hb dL_law_685 (by decide) (fun _ => ?_) (fun c9 => absurd hz c9)
    refine lv_iconst (v := 0) hx hb dL_law_692 (by decide) ?_
    refine lv_aload_n hx hb dL_law_693 rfl (lv_at hl 1 rfl) ?_
    refine l_wrap (n := 4) (rest := []) K hA hW hM hS hCw (fx_w 413 (by decide +kernel) rfl) (fx_w 411 (by decide +kernel) rfl) (fx_w 412 (by decide +kernel) rfl) (fx_w 36 (by decide +kernel) rfl) ⟨by decide, by decide, by decide +kernel⟩ rfl ⟨by decide, by decide⟩ rfl hl.1 (Nat.le_of_ble_eq_true rfl) ⟨hcs1, hcs2⟩ dL_law_694 (fun H locs hW hM hS => ?_)
    refine lv_istore (lv' := [(5, .int code), (4, .int (nI i)), (3, .ref (ad 115)), (2, .ref (am 0)), (1, .ref (ad 0)), (0, .ref b)]) hx hb dL_law_697 hl (by decide) rfl (fun ls hl => ?_)
    refine lv_aload_n hx hb dL_law_699 rfl (lv_at hl 3 rfl) ?_
    refine lv_aload_n hx hb dL_law_700 rfl (lv_at hl 5 rfl) ?_
    refine lv_iload hx hb dL_law_701 (lv_at hl 1 rfl) ?_
    refine lv_iconst (v := 1) hx hb dL_law_703 (by decide) ?_
    refine lv_iadd hx hb dL_law_704 ?_
    rw [show nI i + 1 = nI (i + 1) from nI_add i 1]
    refine l_sld K hS (by omega) (by omega) dL_law_705 ?_
    refine lv_aload_n hx hb dL_law_706 rfl (lv_at hl 5 rfl) ?_
    refine lv_iload hx hb dL_law_707 (lv_at hl 1 rfl) ?_
    refine lv_iconst (v := 2) hx hb dL_law_709 (by decide) ?_
    refine lv_iadd hx hb dL_law_710 ?_
    rw [show nI i + 2 = nI (i + 2) from nI_add i 2]
    refine l_sld K hS (by omega) (by omega) dL_law_711 ?_
    refine lv_if_eq (tgt := 719) hx hb dL_law_712 (by decide) (fun _ => ?_) (fun c9 => absurd hz c9)
    refine lv_iconst (v := 0) hx hb dL_law_719 (by decide) ?_
    refine l_model (rest := []) K hA hW hM hS hCm ok_L_108 rfl ⟨by show fr + 1 ≤ 13; omega, by show 8 + (4 + 11) + lo ≤ 502; omega⟩ rfl hl.1 (Nat.le_of_ble_eq_true rfl) ⟨by show cells + 2 + 0 ≤ room_1.cells; omega, by show slots + 20 + 0 ≤ room_1.slots; omega⟩ dL_law_720 (fun H locs hW hM hS => ?_)
    refine lv_istore (lv' := [(6, .int r), (5, .int code), (4, .int (nI i)), (3, .ref (ad 115)), (2, .ref (am 0)), (1, .ref (ad 0)), (0, .ref b)]) hx hb dL_law_723 hl (by decide) rfl (fun ls hl => ?_)
    refine lv_aload_n hx hb dL_law_725 rfl (lv_at hl 4 rfl) ?_
    refine l_model (rest := []) K hA hW hM hS (c_X4_thrown l Z am hA.2.1 h2) ok_L_78 rfl ⟨by decide, by decide⟩ rfl hl.1 (Nat.le_of_ble_eq_true rfl) ⟨by show cells + 2 + 0 ≤ room_1.cells; omega, by show slots + 20 + 0 ≤ room_1.slots; omega⟩ dL_law_726 (fun H locs hW hM hS => ?_)
    refine lv_iload hx hb dL_law_729 (lv_at hl 1 rfl) ?_
    refine lv_icmp_eq (tgt := 736) hx hb dL_law_731 (by decide) (fun _ => ?_) (fun c9 => absurd hth c9)
    refine lv_iload hx hb dL_law_736 (lv_at hl 1 rfl) ?_
    refine lv_if_ne (tgt := 753) hx hb dL_law_738 (by decide) (fun c9 => ?_) (fun c9 => ?_)
    · refine lv_goto (tgt := 1184) hx hb dL_law_753 (by decide) ?_
      exact kk g2 h2 o2 H locs ls hrel hW hM hS (lv_sub hl [2, 3, 4, 5, 6] rfl)
    have hc0 : code = 0 := c9
    have ho2 := hout hc0
    subst ho2
    refine lv_aload_n hx hb dL_law_741 rfl (lv_at hl 3 rfl) ?_
    refine lv_iconst (v := 0) hx hb dL_law_742 (by decide) ?_
    refine l_oget K hW dL_law_743 ?_
    refine lv_iload hx hb dL_law_744 (lv_at hl 0 rfl) ?_
    refine lv_i2l hx hb dL_law_746 rfl ?_
    refine l_lcmp hx hb dL_law_747 ?_
    refine lv_if_eq (tgt := 753) hx hb dL_law_748 (by decide) (fun _ => ?_) (fun c9 => absurd rfl c9)
    refine lv_goto (tgt := 1184) hx hb dL_law_753 (by decide) ?_
    exact kk g2 h2 r.toInt64 H locs ls hrel hW hM hS (lv_sub hl [2, 3, 4, 5, 6] rfl)
  · obtain ⟨code, r, ⟨g2, o2⟩, h2, fr, lo, hfr, hlo, hCw, hCm, hth, hout, hrel⟩ := hop (xs (i + 1)) 1 (Or.inr rfl) g h o hR
    have hout : code = 0 → o2 = r.toInt64 := hout
    have hrel : Rel g2 h2 := hrel
    refine lv_aload_n hx hb dL_law_672 rfl (lv_at hl 3 rfl) ?_
    refine lv_aload_n hx hb dL_law_673 rfl (lv_at hl 4 rfl) ?_
    refine lv_iload hx hb dL_law_674 (lv_at hl 0 rfl) ?_
    refine lv_iconst (v := 1) hx hb dL_law_676 (by decide) ?_
    refine lv_iadd hx hb dL_law_677 ?_
    rw [show nI i + 1 = nI (i + 1) from nI_add i 1]
    refine l_sld K hS (by omega) (by omega) dL_law_678 ?_
    refine lv_aload_n hx hb dL_law_679 rfl (lv_at hl 4 rfl) ?_
    refine lv_iload hx hb dL_law_680 (lv_at hl 0 rfl) ?_
    refine lv_iconst (v := 2) hx hb dL_law_682 (by decide) ?_
    refine lv_iadd hx hb dL_law_683 ?_
    rw [show nI i + 2 = nI (i + 2) from nI_add i 2]
    refine l_sld K hS (by omega) (by omega) dL_law_684 ?_
    refine lv_if_eq (tgt := 692) hx hb dL_law_685 (by decide) (fun c9 => absurd c9 hz) (fun _ => ?_)
    refine lv_iconst (v := 1) hx hb dL_law_688 (by decide) ?_
    refine lv_goto (tgt := 693) hx hb dL_law_689 (by decide) ?_
    refine lv_aload_n hx hb dL_law_693 rfl (lv_at hl 1 rfl) ?_
    refine l_wrap (n := 4) (rest := []) K hA hW hM hS hCw (fx_w 413 (by decide +kernel) rfl) (fx_w 411 (by decide +kernel) rfl) (fx_w 412 (by decide +kernel) rfl) (fx_w 36 (by decide +kernel) rfl) ⟨by decide, by decide, by decide +kernel⟩ rfl ⟨by decide, by decide⟩ rfl hl.1 (Nat.le_of_ble_eq_true rfl) ⟨hcs1, hcs2⟩ dL_law_694 (fun H locs hW hM hS => ?_)
    refine lv_istore (lv' := [(5, .int code), (4, .int (nI i)), (3, .ref (ad 115)), (2, .ref (am 0)), (1, .ref (ad 0)), (0, .ref b)]) hx hb dL_law_697 hl (by decide) rfl (fun ls hl => ?_)
    refine lv_aload_n hx hb dL_law_699 rfl (lv_at hl 3 rfl) ?_
    refine lv_aload_n hx hb dL_law_700 rfl (lv_at hl 5 rfl) ?_
    refine lv_iload hx hb dL_law_701 (lv_at hl 1 rfl) ?_
    refine lv_iconst (v := 1) hx hb dL_law_703 (by decide) ?_
    refine lv_iadd hx hb dL_law_704 ?_
    rw [show nI i + 1 = nI (i + 1) from nI_add i 1]
    refine l_sld K hS (by omega) (by omega) dL_law_705 ?_
    refine lv_aload_n hx hb dL_law_706 rfl (lv_at hl 5 rfl) ?_
    refine lv_iload hx hb dL_law_707 (lv_at hl 1 rfl) ?_
    refine lv_iconst (v := 2) hx hb dL_law_709 (by decide) ?_
    refine lv_iadd hx hb dL_law_710 ?_
    rw [show nI i + 2 = nI (i + 2) from nI_add i 2]
    refine l_sld K hS (by omega) (by omega) dL_law_711 ?_
    refine lv_if_eq (tgt := 719) hx hb dL_law_712 (by decide) (fun c9 => absurd c9 hz) (fun _ => ?_)
    refine lv_iconst (v := 1) hx hb dL_law_715 (by decide) ?_
    refine lv_goto (tgt := 720) hx hb dL_law_716 (by decide) ?_
    refine l_model (rest := []) K hA hW hM hS hCm ok_L_108 rfl ⟨by show fr + 1 ≤ 13; omega, by show 8 + (4 + 11) + lo ≤ 502; omega⟩ rfl hl.1 (Nat.le_of_ble_eq_true rfl) ⟨by show cells + 2 + 0 ≤ room_1.cells; omega, by show slots + 20 + 0 ≤ room_1.slots; omega⟩ dL_law_720 (fun H locs hW hM hS => ?_)
    refine lv_istore (lv' := [(6, .int r), (5, .int code), (4, .int (nI i)), (3, .ref (ad 115)), (2, .ref (am 0)), (1, .ref (ad 0)), (0, .ref b)]) hx hb dL_law_723 hl (by decide) rfl (fun ls hl => ?_)
    refine lv_aload_n hx hb dL_law_725 rfl (lv_at hl 4 rfl) ?_
    refine l_model (rest := []) K hA hW hM hS (c_X4_thrown l Z am hA.2.1 h2) ok_L_78 rfl ⟨by decide, by decide⟩ rfl hl.1 (Nat.le_of_ble_eq_true rfl) ⟨by show cells + 2 + 0 ≤ room_1.cells; omega, by show slots + 20 + 0 ≤ room_1.slots; omega⟩ dL_law_726 (fun H locs hW hM hS => ?_)
    refine lv_iload hx hb dL_law_729 (lv_at hl 1 rfl) ?_
    refine lv_icmp_eq (tgt := 736) hx hb dL_law_731 (by decide) (fun _ => ?_) (fun c9 => absurd hth c9)
    refine lv_iload hx hb dL_law_736 (lv_at hl 1 rfl) ?_
    refine lv_if_ne (tgt := 753) hx hb dL_law_738 (by decide) (fun c9 => ?_) (fun c9 => ?_)
    · refine lv_goto (tgt := 1184) hx hb dL_law_753 (by decide) ?_
      exact kk g2 h2 o2 H locs ls hrel hW hM hS (lv_sub hl [2, 3, 4, 5, 6] rfl)
    have hc0 : code = 0 := c9
    have ho2 := hout hc0
    subst ho2
    refine lv_aload_n hx hb dL_law_741 rfl (lv_at hl 3 rfl) ?_
    refine lv_iconst (v := 0) hx hb dL_law_742 (by decide) ?_
    refine l_oget K hW dL_law_743 ?_
    refine lv_iload hx hb dL_law_744 (lv_at hl 0 rfl) ?_
    refine lv_i2l hx hb dL_law_746 rfl ?_
    refine l_lcmp hx hb dL_law_747 ?_
    refine lv_if_eq (tgt := 753) hx hb dL_law_748 (by decide) (fun _ => ?_) (fun c9 => absurd rfl c9)
    refine lv_goto (tgt := 1184) hx hb dL_law_753 (by decide) ?_
    exact kk g2 h2 r.toInt64 H locs ls hrel hW hM hS (lv_sub hl [2, 3, 4, 5, 6] rfl)

set_option maxHeartbeats 4000000 in
set_option maxRecDepth 100000 in
theorem law_comeBack {p : Program} {l : Launch} {e : Env} {s : State} {m : MethodId} {below : List Frame} {meth : Method} {c : Code} {H : Heap} {locs : List Loc} {cells slots : Nat} {Q : State → Prop} {Z : fx_Z} {ad am : Nat → Nat} {b L i : Nat} {xs : Nat → Int32} {ls : Array Slot} {g h : St} {o : Int64} {Rel : St → St → Prop}
    (K : l_K p s m meth c b L xs Z) (hA : l_ad s ad am) (hop : ∀ a0 : Int32, op_OK l Z ad am Rel yL_comeBack cL_comeBack 4 [(0, 9, 12, 13), (0, 9, 15, 21)] yX4_comeBack cX4_comeBack 3 (some .int) [.int a0]) (hR : Rel g h) (hW : va_P Z.1 vwCl (iw 116 (wF ad Z.2.1 (g, o))) H) (hM : va_P Z.1 vwCl (iw 22 (mF am (Z.2.1 0) h)) H) (hS : va_S (lA s) s.heap H locs) (hi : i + 5 ≤ L) (hL : L ≤ 2560) (hcs : cells + 2 ≤ room_1.cells ∧ slots + 20 ≤ room_1.slots) (hl : lv_has ls 7 [(4, .int (nI i)), (3, .ref (ad 115)), (2, .ref (am 0)), (1, .ref (ad 0)), (0, .ref b)])
    (kk : ∀ (g2 h2 : St) (o2 : Int64) (H1 : Heap) (locs1 : List Loc) (ls : Array Slot), Rel g2 h2 → va_P Z.1 vwCl (iw 116 (wF ad Z.2.1 (g2, o2))) H1 → va_P Z.1 vwCl (iw 22 (mF am (Z.2.1 0) h2)) H1 → va_S (lA s) s.heap H1 locs1 → lv_has ls 7 [(4, .int (nI i)), (3, .ref (ad 115)), (2, .ref (am 0)), (1, .ref (ad 0)), (0, .ref b)] → W p l e room_1 s m #[Value.ref b] below meth c H1 locs1 (cells + 2) (slots + 20) Q (F0 m 1184 ls [])) :
    W p l e room_1 s m #[Value.ref b] below meth c H locs cells slots Q (F0 m 756 ls []) := by
  have hx := K.1
  have hb := K.2.1
  have hcs1 := hcs.1
  have hcs2 := hcs.2
  obtain ⟨code, r, ⟨g2, o2⟩, h2, fr, lo, hfr, hlo, hCw, hCm, hth, hout, hrel⟩ := hop (xs (i + 1)) g h o hR
  have hout : code = 0 → o2 = r.toInt64 := hout
  have hrel : Rel g2 h2 := hrel
  refine lv_aload_n hx hb dL_law_756 rfl (lv_at hl 3 rfl) ?_
  refine lv_aload_n hx hb dL_law_757 rfl (lv_at hl 4 rfl) ?_
  refine lv_iload hx hb dL_law_758 (lv_at hl 0 rfl) ?_
  refine lv_iconst (v := 1) hx hb dL_law_760 (by decide) ?_
  refine lv_iadd hx hb dL_law_761 ?_
  rw [show nI i + 1 = nI (i + 1) from nI_add i 1]
  refine l_sld K hS (by omega) (by omega) dL_law_762 ?_
  refine lv_aload_n hx hb dL_law_763 rfl (lv_at hl 1 rfl) ?_
  refine l_wrap (n := 3) (rest := []) K hA hW hM hS hCw (fx_w 421 (by decide +kernel) rfl) (fx_w 419 (by decide +kernel) rfl) (fx_w 420 (by decide +kernel) rfl) (fx_w 36 (by decide +kernel) rfl) ⟨by decide, by decide, by decide +kernel⟩ rfl ⟨by decide, by decide⟩ rfl hl.1 (Nat.le_of_ble_eq_true rfl) ⟨hcs1, hcs2⟩ dL_law_764 (fun H locs hW hM hS => ?_)
  refine lv_istore (lv' := [(5, .int code), (4, .int (nI i)), (3, .ref (ad 115)), (2, .ref (am 0)), (1, .ref (ad 0)), (0, .ref b)]) hx hb dL_law_767 hl (by decide) rfl (fun ls hl => ?_)
  refine lv_aload_n hx hb dL_law_769 rfl (lv_at hl 3 rfl) ?_
  refine lv_aload_n hx hb dL_law_770 rfl (lv_at hl 5 rfl) ?_
  refine lv_iload hx hb dL_law_771 (lv_at hl 1 rfl) ?_
  refine lv_iconst (v := 1) hx hb dL_law_773 (by decide) ?_
  refine lv_iadd hx hb dL_law_774 ?_
  rw [show nI i + 1 = nI (i + 1) from nI_add i 1]
  refine l_sld K hS (by omega) (by omega) dL_law_775 ?_
  refine l_model (rest := []) K hA hW hM hS hCm ok_L_111 rfl ⟨by show fr + 1 ≤ 13; omega, by show 8 + (3 + 11) + lo ≤ 502; omega⟩ rfl hl.1 (Nat.le_of_ble_eq_true rfl) ⟨by show cells + 2 + 0 ≤ room_1.cells; omega, by show slots + 20 + 0 ≤ room_1.slots; omega⟩ dL_law_776 (fun H locs hW hM hS => ?_)
  refine lv_istore (lv' := [(6, .int r), (5, .int code), (4, .int (nI i)), (3, .ref (ad 115)), (2, .ref (am 0)), (1, .ref (ad 0)), (0, .ref b)]) hx hb dL_law_779 hl (by decide) rfl (fun ls hl => ?_)
  refine lv_aload_n hx hb dL_law_781 rfl (lv_at hl 4 rfl) ?_
  refine l_model (rest := []) K hA hW hM hS (c_X4_thrown l Z am hA.2.1 h2) ok_L_78 rfl ⟨by decide, by decide⟩ rfl hl.1 (Nat.le_of_ble_eq_true rfl) ⟨by show cells + 2 + 0 ≤ room_1.cells; omega, by show slots + 20 + 0 ≤ room_1.slots; omega⟩ dL_law_782 (fun H locs hW hM hS => ?_)
  refine lv_iload hx hb dL_law_785 (lv_at hl 1 rfl) ?_
  refine lv_icmp_eq (tgt := 792) hx hb dL_law_787 (by decide) (fun _ => ?_) (fun c9 => absurd hth c9)
  refine lv_iload hx hb dL_law_792 (lv_at hl 1 rfl) ?_
  refine lv_if_ne (tgt := 809) hx hb dL_law_794 (by decide) (fun c9 => ?_) (fun c9 => ?_)
  · refine lv_goto (tgt := 1184) hx hb dL_law_809 (by decide) ?_
    exact kk g2 h2 o2 H locs ls hrel hW hM hS (lv_sub hl [2, 3, 4, 5, 6] rfl)
  have hc0 : code = 0 := c9
  have ho2 := hout hc0
  subst ho2
  refine lv_aload_n hx hb dL_law_797 rfl (lv_at hl 3 rfl) ?_
  refine lv_iconst (v := 0) hx hb dL_law_798 (by decide) ?_
  refine l_oget K hW dL_law_799 ?_
  refine lv_iload hx hb dL_law_800 (lv_at hl 0 rfl) ?_
  refine lv_i2l hx hb dL_law_802 rfl ?_
  refine l_lcmp hx hb dL_law_803 ?_
  refine lv_if_eq (tgt := 809) hx hb dL_law_804 (by decide) (fun _ => ?_) (fun c9 => absurd rfl c9)
  refine lv_goto (tgt := 1184) hx hb dL_law_809 (by decide) ?_
  exact kk g2 h2 r.toInt64 H locs ls hrel hW hM hS (lv_sub hl [2, 3, 4, 5, 6] rfl)

set_option maxHeartbeats 4000000 in
set_option maxRecDepth 100000 in
theorem law_pass {p : Program} {l : Launch} {e : Env} {s : State} {m : MethodId} {below : List Frame} {meth : Method} {c : Code} {H : Heap} {locs : List Loc} {cells slots : Nat} {Q : State → Prop} {Z : fx_Z} {ad am : Nat → Nat} {b L i : Nat} {xs : Nat → Int32} {ls : Array Slot} {g h : St} {o : Int64} {Rel : St → St → Prop}
    (K : l_K p s m meth c b L xs Z) (hA : l_ad s ad am) (hop : ∀ a0 : Int32, op_OK l Z ad am Rel yL_pass cL_pass 4 [(0, 9, 12, 15), (0, 9, 15, 21)] yX4_pass cX4_pass 4 (some .int) [.int a0]) (hR : Rel g h) (hW : va_P Z.1 vwCl (iw 116 (wF ad Z.2.1 (g, o))) H) (hM : va_P Z.1 vwCl (iw 22 (mF am (Z.2.1 0) h)) H) (hS : va_S (lA s) s.heap H locs) (hi : i + 5 ≤ L) (hL : L ≤ 2560) (hcs : cells + 2 ≤ room_1.cells ∧ slots + 20 ≤ room_1.slots) (hl : lv_has ls 7 [(4, .int (nI i)), (3, .ref (ad 115)), (2, .ref (am 0)), (1, .ref (ad 0)), (0, .ref b)])
    (kk : ∀ (g2 h2 : St) (o2 : Int64) (H1 : Heap) (locs1 : List Loc) (ls : Array Slot), Rel g2 h2 → va_P Z.1 vwCl (iw 116 (wF ad Z.2.1 (g2, o2))) H1 → va_P Z.1 vwCl (iw 22 (mF am (Z.2.1 0) h2)) H1 → va_S (lA s) s.heap H1 locs1 → lv_has ls 7 [(4, .int (nI i)), (3, .ref (ad 115)), (2, .ref (am 0)), (1, .ref (ad 0)), (0, .ref b)] → W p l e room_1 s m #[Value.ref b] below meth c H1 locs1 (cells + 2) (slots + 20) Q (F0 m 1184 ls [])) :
    W p l e room_1 s m #[Value.ref b] below meth c H locs cells slots Q (F0 m 812 ls []) := by
  have hx := K.1
  have hb := K.2.1
  have hcs1 := hcs.1
  have hcs2 := hcs.2
  obtain ⟨code, r, ⟨g2, o2⟩, h2, fr, lo, hfr, hlo, hCw, hCm, hth, hout, hrel⟩ := hop (xs (i + 1)) g h o hR
  have hout : code = 0 → o2 = r.toInt64 := hout
  have hrel : Rel g2 h2 := hrel
  refine lv_aload_n hx hb dL_law_812 rfl (lv_at hl 3 rfl) ?_
  refine lv_aload_n hx hb dL_law_813 rfl (lv_at hl 4 rfl) ?_
  refine lv_iload hx hb dL_law_814 (lv_at hl 0 rfl) ?_
  refine lv_iconst (v := 1) hx hb dL_law_816 (by decide) ?_
  refine lv_iadd hx hb dL_law_817 ?_
  rw [show nI i + 1 = nI (i + 1) from nI_add i 1]
  refine l_sld K hS (by omega) (by omega) dL_law_818 ?_
  refine lv_aload_n hx hb dL_law_819 rfl (lv_at hl 1 rfl) ?_
  refine l_wrap (n := 3) (rest := []) K hA hW hM hS hCw (fx_w 429 (by decide +kernel) rfl) (fx_w 427 (by decide +kernel) rfl) (fx_w 428 (by decide +kernel) rfl) (fx_w 36 (by decide +kernel) rfl) ⟨by decide, by decide, by decide +kernel⟩ rfl ⟨by decide, by decide⟩ rfl hl.1 (Nat.le_of_ble_eq_true rfl) ⟨hcs1, hcs2⟩ dL_law_820 (fun H locs hW hM hS => ?_)
  refine lv_istore (lv' := [(5, .int code), (4, .int (nI i)), (3, .ref (ad 115)), (2, .ref (am 0)), (1, .ref (ad 0)), (0, .ref b)]) hx hb dL_law_823 hl (by decide) rfl (fun ls hl => ?_)
  refine lv_aload_n hx hb dL_law_825 rfl (lv_at hl 3 rfl) ?_
  refine lv_aload_n hx hb dL_law_826 rfl (lv_at hl 5 rfl) ?_
  refine lv_iload hx hb dL_law_827 (lv_at hl 1 rfl) ?_
  refine lv_iconst (v := 1) hx hb dL_law_829 (by decide) ?_
  refine lv_iadd hx hb dL_law_830 ?_
  rw [show nI i + 1 = nI (i + 1) from nI_add i 1]
  refine l_sld K hS (by omega) (by omega) dL_law_831 ?_
  refine l_model (rest := []) K hA hW hM hS hCm ok_L_114 rfl ⟨by show fr + 1 ≤ 13; omega, by show 8 + (4 + 11) + lo ≤ 502; omega⟩ rfl hl.1 (Nat.le_of_ble_eq_true rfl) ⟨by show cells + 2 + 0 ≤ room_1.cells; omega, by show slots + 20 + 0 ≤ room_1.slots; omega⟩ dL_law_832 (fun H locs hW hM hS => ?_)
  refine lv_istore (lv' := [(6, .int r), (5, .int code), (4, .int (nI i)), (3, .ref (ad 115)), (2, .ref (am 0)), (1, .ref (ad 0)), (0, .ref b)]) hx hb dL_law_835 hl (by decide) rfl (fun ls hl => ?_)
  refine lv_aload_n hx hb dL_law_837 rfl (lv_at hl 4 rfl) ?_
  refine l_model (rest := []) K hA hW hM hS (c_X4_thrown l Z am hA.2.1 h2) ok_L_78 rfl ⟨by decide, by decide⟩ rfl hl.1 (Nat.le_of_ble_eq_true rfl) ⟨by show cells + 2 + 0 ≤ room_1.cells; omega, by show slots + 20 + 0 ≤ room_1.slots; omega⟩ dL_law_838 (fun H locs hW hM hS => ?_)
  refine lv_iload hx hb dL_law_841 (lv_at hl 1 rfl) ?_
  refine lv_icmp_eq (tgt := 848) hx hb dL_law_843 (by decide) (fun _ => ?_) (fun c9 => absurd hth c9)
  refine lv_iload hx hb dL_law_848 (lv_at hl 1 rfl) ?_
  refine lv_if_ne (tgt := 865) hx hb dL_law_850 (by decide) (fun c9 => ?_) (fun c9 => ?_)
  · refine lv_goto (tgt := 1184) hx hb dL_law_865 (by decide) ?_
    exact kk g2 h2 o2 H locs ls hrel hW hM hS (lv_sub hl [2, 3, 4, 5, 6] rfl)
  have hc0 : code = 0 := c9
  have ho2 := hout hc0
  subst ho2
  refine lv_aload_n hx hb dL_law_853 rfl (lv_at hl 3 rfl) ?_
  refine lv_iconst (v := 0) hx hb dL_law_854 (by decide) ?_
  refine l_oget K hW dL_law_855 ?_
  refine lv_iload hx hb dL_law_856 (lv_at hl 0 rfl) ?_
  refine lv_i2l hx hb dL_law_858 rfl ?_
  refine l_lcmp hx hb dL_law_859 ?_
  refine lv_if_eq (tgt := 865) hx hb dL_law_860 (by decide) (fun _ => ?_) (fun c9 => absurd rfl c9)
  refine lv_goto (tgt := 1184) hx hb dL_law_865 (by decide) ?_
  exact kk g2 h2 r.toInt64 H locs ls hrel hW hM hS (lv_sub hl [2, 3, 4, 5, 6] rfl)

set_option maxHeartbeats 4000000 in
set_option maxRecDepth 100000 in
theorem law_ofReceipt {p : Program} {l : Launch} {e : Env} {s : State} {m : MethodId} {below : List Frame} {meth : Method} {c : Code} {H : Heap} {locs : List Loc} {cells slots : Nat} {Q : State → Prop} {Z : fx_Z} {ad am : Nat → Nat} {b L i : Nat} {xs : Nat → Int32} {ls : Array Slot} {g h : St} {o : Int64} {Rel : St → St → Prop}
    (K : l_K p s m meth c b L xs Z) (hA : l_ad s ad am) (hop : ∀ a0 a1 : Int32, op_OK l Z ad am Rel yL_ofReceipt cL_ofReceipt 5 [(0, 10, 13, 13), (0, 10, 17, 15)] yX4_ofReceipt cX4_ofReceipt 3 (some .int) [.int a0, .int a1]) (hR : Rel g h) (hW : va_P Z.1 vwCl (iw 116 (wF ad Z.2.1 (g, o))) H) (hM : va_P Z.1 vwCl (iw 22 (mF am (Z.2.1 0) h)) H) (hS : va_S (lA s) s.heap H locs) (hi : i + 5 ≤ L) (hL : L ≤ 2560) (hcs : cells + 2 ≤ room_1.cells ∧ slots + 20 ≤ room_1.slots) (hl : lv_has ls 7 [(4, .int (nI i)), (3, .ref (ad 115)), (2, .ref (am 0)), (1, .ref (ad 0)), (0, .ref b)])
    (kk : ∀ (g2 h2 : St) (o2 : Int64) (H1 : Heap) (locs1 : List Loc) (ls : Array Slot), Rel g2 h2 → va_P Z.1 vwCl (iw 116 (wF ad Z.2.1 (g2, o2))) H1 → va_P Z.1 vwCl (iw 22 (mF am (Z.2.1 0) h2)) H1 → va_S (lA s) s.heap H1 locs1 → lv_has ls 7 [(4, .int (nI i)), (3, .ref (ad 115)), (2, .ref (am 0)), (1, .ref (ad 0)), (0, .ref b)] → W p l e room_1 s m #[Value.ref b] below meth c H1 locs1 (cells + 2) (slots + 20) Q (F0 m 1184 ls [])) :
    W p l e room_1 s m #[Value.ref b] below meth c H locs cells slots Q (F0 m 868 ls []) := by
  have hx := K.1
  have hb := K.2.1
  have hcs1 := hcs.1
  have hcs2 := hcs.2
  obtain ⟨code, r, ⟨g2, o2⟩, h2, fr, lo, hfr, hlo, hCw, hCm, hth, hout, hrel⟩ := hop (xs (i + 1)) (xs (i + 2)) g h o hR
  have hout : code = 0 → o2 = r.toInt64 := hout
  have hrel : Rel g2 h2 := hrel
  refine lv_aload_n hx hb dL_law_868 rfl (lv_at hl 3 rfl) ?_
  refine lv_aload_n hx hb dL_law_869 rfl (lv_at hl 4 rfl) ?_
  refine lv_iload hx hb dL_law_870 (lv_at hl 0 rfl) ?_
  refine lv_iconst (v := 1) hx hb dL_law_872 (by decide) ?_
  refine lv_iadd hx hb dL_law_873 ?_
  rw [show nI i + 1 = nI (i + 1) from nI_add i 1]
  refine l_sld K hS (by omega) (by omega) dL_law_874 ?_
  refine lv_aload_n hx hb dL_law_875 rfl (lv_at hl 4 rfl) ?_
  refine lv_iload hx hb dL_law_876 (lv_at hl 0 rfl) ?_
  refine lv_iconst (v := 2) hx hb dL_law_878 (by decide) ?_
  refine lv_iadd hx hb dL_law_879 ?_
  rw [show nI i + 2 = nI (i + 2) from nI_add i 2]
  refine l_sld K hS (by omega) (by omega) dL_law_880 ?_
  refine lv_aload_n hx hb dL_law_881 rfl (lv_at hl 1 rfl) ?_
  refine l_wrap (n := 4) (rest := []) K hA hW hM hS hCw (fx_w 461 (by decide +kernel) rfl) (fx_w 459 (by decide +kernel) rfl) (fx_w 460 (by decide +kernel) rfl) (fx_w 36 (by decide +kernel) rfl) ⟨by decide, by decide, by decide +kernel⟩ rfl ⟨by decide, by decide⟩ rfl hl.1 (Nat.le_of_ble_eq_true rfl) ⟨hcs1, hcs2⟩ dL_law_882 (fun H locs hW hM hS => ?_)
  refine lv_istore (lv' := [(5, .int code), (4, .int (nI i)), (3, .ref (ad 115)), (2, .ref (am 0)), (1, .ref (ad 0)), (0, .ref b)]) hx hb dL_law_885 hl (by decide) rfl (fun ls hl => ?_)
  refine lv_aload_n hx hb dL_law_887 rfl (lv_at hl 3 rfl) ?_
  refine lv_aload_n hx hb dL_law_888 rfl (lv_at hl 5 rfl) ?_
  refine lv_iload hx hb dL_law_889 (lv_at hl 1 rfl) ?_
  refine lv_iconst (v := 1) hx hb dL_law_891 (by decide) ?_
  refine lv_iadd hx hb dL_law_892 ?_
  rw [show nI i + 1 = nI (i + 1) from nI_add i 1]
  refine l_sld K hS (by omega) (by omega) dL_law_893 ?_
  refine lv_aload_n hx hb dL_law_894 rfl (lv_at hl 5 rfl) ?_
  refine lv_iload hx hb dL_law_895 (lv_at hl 1 rfl) ?_
  refine lv_iconst (v := 2) hx hb dL_law_897 (by decide) ?_
  refine lv_iadd hx hb dL_law_898 ?_
  rw [show nI i + 2 = nI (i + 2) from nI_add i 2]
  refine l_sld K hS (by omega) (by omega) dL_law_899 ?_
  refine l_model (rest := []) K hA hW hM hS hCm ok_L_117 rfl ⟨by show fr + 1 ≤ 13; omega, by show 8 + (3 + 11) + lo ≤ 502; omega⟩ rfl hl.1 (Nat.le_of_ble_eq_true rfl) ⟨by show cells + 2 + 0 ≤ room_1.cells; omega, by show slots + 20 + 0 ≤ room_1.slots; omega⟩ dL_law_900 (fun H locs hW hM hS => ?_)
  refine lv_istore (lv' := [(6, .int r), (5, .int code), (4, .int (nI i)), (3, .ref (ad 115)), (2, .ref (am 0)), (1, .ref (ad 0)), (0, .ref b)]) hx hb dL_law_903 hl (by decide) rfl (fun ls hl => ?_)
  refine lv_aload_n hx hb dL_law_905 rfl (lv_at hl 4 rfl) ?_
  refine l_model (rest := []) K hA hW hM hS (c_X4_thrown l Z am hA.2.1 h2) ok_L_78 rfl ⟨by decide, by decide⟩ rfl hl.1 (Nat.le_of_ble_eq_true rfl) ⟨by show cells + 2 + 0 ≤ room_1.cells; omega, by show slots + 20 + 0 ≤ room_1.slots; omega⟩ dL_law_906 (fun H locs hW hM hS => ?_)
  refine lv_iload hx hb dL_law_909 (lv_at hl 1 rfl) ?_
  refine lv_icmp_eq (tgt := 916) hx hb dL_law_911 (by decide) (fun _ => ?_) (fun c9 => absurd hth c9)
  refine lv_iload hx hb dL_law_916 (lv_at hl 1 rfl) ?_
  refine lv_if_ne (tgt := 933) hx hb dL_law_918 (by decide) (fun c9 => ?_) (fun c9 => ?_)
  · refine lv_goto (tgt := 1184) hx hb dL_law_933 (by decide) ?_
    exact kk g2 h2 o2 H locs ls hrel hW hM hS (lv_sub hl [2, 3, 4, 5, 6] rfl)
  have hc0 : code = 0 := c9
  have ho2 := hout hc0
  subst ho2
  refine lv_aload_n hx hb dL_law_921 rfl (lv_at hl 3 rfl) ?_
  refine lv_iconst (v := 0) hx hb dL_law_922 (by decide) ?_
  refine l_oget K hW dL_law_923 ?_
  refine lv_iload hx hb dL_law_924 (lv_at hl 0 rfl) ?_
  refine lv_i2l hx hb dL_law_926 rfl ?_
  refine l_lcmp hx hb dL_law_927 ?_
  refine lv_if_eq (tgt := 933) hx hb dL_law_928 (by decide) (fun _ => ?_) (fun c9 => absurd rfl c9)
  refine lv_goto (tgt := 1184) hx hb dL_law_933 (by decide) ?_
  exact kk g2 h2 r.toInt64 H locs ls hrel hW hM hS (lv_sub hl [2, 3, 4, 5, 6] rfl)

set_option maxHeartbeats 4000000 in
set_option maxRecDepth 100000 in
theorem law_code {p : Program} {l : Launch} {e : Env} {s : State} {m : MethodId} {below : List Frame} {meth : Method} {c : Code} {H : Heap} {locs : List Loc} {cells slots : Nat} {Q : State → Prop} {Z : fx_Z} {ad am : Nat → Nat} {b L i : Nat} {xs : Nat → Int32} {ls : Array Slot} {g h : St} {o : Int64} {Rel : St → St → Prop}
    (K : l_K p s m meth c b L xs Z) (hA : l_ad s ad am) (hop : ∀ a0 a1 : Int32, op_OK l Z ad am Rel yL_code cL_code 5 [(0, 10, 13, 13)] yX4_code cX4_code 5 (some .char) [.int a0, .int a1]) (hR : Rel g h) (hW : va_P Z.1 vwCl (iw 116 (wF ad Z.2.1 (g, o))) H) (hM : va_P Z.1 vwCl (iw 22 (mF am (Z.2.1 0) h)) H) (hS : va_S (lA s) s.heap H locs) (hi : i + 5 ≤ L) (hL : L ≤ 2560) (hcs : cells + 2 ≤ room_1.cells ∧ slots + 20 ≤ room_1.slots) (hl : lv_has ls 7 [(4, .int (nI i)), (3, .ref (ad 115)), (2, .ref (am 0)), (1, .ref (ad 0)), (0, .ref b)])
    (kk : ∀ (g2 h2 : St) (o2 : Int64) (H1 : Heap) (locs1 : List Loc) (ls : Array Slot), Rel g2 h2 → va_P Z.1 vwCl (iw 116 (wF ad Z.2.1 (g2, o2))) H1 → va_P Z.1 vwCl (iw 22 (mF am (Z.2.1 0) h2)) H1 → va_S (lA s) s.heap H1 locs1 → lv_has ls 7 [(4, .int (nI i)), (3, .ref (ad 115)), (2, .ref (am 0)), (1, .ref (ad 0)), (0, .ref b)] → W p l e room_1 s m #[Value.ref b] below meth c H1 locs1 (cells + 2) (slots + 20) Q (F0 m 1184 ls [])) :
    W p l e room_1 s m #[Value.ref b] below meth c H locs cells slots Q (F0 m 936 ls []) := by
  have hx := K.1
  have hb := K.2.1
  have hcs1 := hcs.1
  have hcs2 := hcs.2
  obtain ⟨code, r, ⟨g2, o2⟩, h2, fr, lo, hfr, hlo, hCw, hCm, hth, hout, hrel⟩ := hop (xs (i + 1)) (xs (i + 2)) g h o hR
  have hout : code = 0 → o2 = r.toInt64 := hout
  have hrel : Rel g2 h2 := hrel
  refine lv_aload_n hx hb dL_law_936 rfl (lv_at hl 3 rfl) ?_
  refine lv_aload_n hx hb dL_law_937 rfl (lv_at hl 4 rfl) ?_
  refine lv_iload hx hb dL_law_938 (lv_at hl 0 rfl) ?_
  refine lv_iconst (v := 1) hx hb dL_law_940 (by decide) ?_
  refine lv_iadd hx hb dL_law_941 ?_
  rw [show nI i + 1 = nI (i + 1) from nI_add i 1]
  refine l_sld K hS (by omega) (by omega) dL_law_942 ?_
  refine lv_aload_n hx hb dL_law_943 rfl (lv_at hl 4 rfl) ?_
  refine lv_iload hx hb dL_law_944 (lv_at hl 0 rfl) ?_
  refine lv_iconst (v := 2) hx hb dL_law_946 (by decide) ?_
  refine lv_iadd hx hb dL_law_947 ?_
  rw [show nI i + 2 = nI (i + 2) from nI_add i 2]
  refine l_sld K hS (by omega) (by omega) dL_law_948 ?_
  refine lv_aload_n hx hb dL_law_949 rfl (lv_at hl 1 rfl) ?_
  refine l_wrap (n := 4) (rest := []) K hA hW hM hS hCw (fx_w 469 (by decide +kernel) rfl) (fx_w 467 (by decide +kernel) rfl) (fx_w 468 (by decide +kernel) rfl) (fx_w 36 (by decide +kernel) rfl) ⟨by decide, by decide, by decide +kernel⟩ rfl ⟨by decide, by decide⟩ rfl hl.1 (Nat.le_of_ble_eq_true rfl) ⟨hcs1, hcs2⟩ dL_law_950 (fun H locs hW hM hS => ?_)
  refine lv_istore (lv' := [(5, .int code), (4, .int (nI i)), (3, .ref (ad 115)), (2, .ref (am 0)), (1, .ref (ad 0)), (0, .ref b)]) hx hb dL_law_953 hl (by decide) rfl (fun ls hl => ?_)
  refine lv_aload_n hx hb dL_law_955 rfl (lv_at hl 3 rfl) ?_
  refine lv_aload_n hx hb dL_law_956 rfl (lv_at hl 5 rfl) ?_
  refine lv_iload hx hb dL_law_957 (lv_at hl 1 rfl) ?_
  refine lv_iconst (v := 1) hx hb dL_law_959 (by decide) ?_
  refine lv_iadd hx hb dL_law_960 ?_
  rw [show nI i + 1 = nI (i + 1) from nI_add i 1]
  refine l_sld K hS (by omega) (by omega) dL_law_961 ?_
  refine lv_aload_n hx hb dL_law_962 rfl (lv_at hl 5 rfl) ?_
  refine lv_iload hx hb dL_law_963 (lv_at hl 1 rfl) ?_
  refine lv_iconst (v := 2) hx hb dL_law_965 (by decide) ?_
  refine lv_iadd hx hb dL_law_966 ?_
  rw [show nI i + 2 = nI (i + 2) from nI_add i 2]
  refine l_sld K hS (by omega) (by omega) dL_law_967 ?_
  refine l_model (rest := []) K hA hW hM hS hCm ok_L_120 rfl ⟨by show fr + 1 ≤ 13; omega, by show 8 + (5 + 11) + lo ≤ 502; omega⟩ rfl hl.1 (Nat.le_of_ble_eq_true rfl) ⟨by show cells + 2 + 0 ≤ room_1.cells; omega, by show slots + 20 + 0 ≤ room_1.slots; omega⟩ dL_law_968 (fun H locs hW hM hS => ?_)
  refine lv_istore (lv' := [(6, .int r), (5, .int code), (4, .int (nI i)), (3, .ref (ad 115)), (2, .ref (am 0)), (1, .ref (ad 0)), (0, .ref b)]) hx hb dL_law_971 hl (by decide) rfl (fun ls hl => ?_)
  refine lv_aload_n hx hb dL_law_973 rfl (lv_at hl 4 rfl) ?_
  refine l_model (rest := []) K hA hW hM hS (c_X4_thrown l Z am hA.2.1 h2) ok_L_78 rfl ⟨by decide, by decide⟩ rfl hl.1 (Nat.le_of_ble_eq_true rfl) ⟨by show cells + 2 + 0 ≤ room_1.cells; omega, by show slots + 20 + 0 ≤ room_1.slots; omega⟩ dL_law_974 (fun H locs hW hM hS => ?_)
  refine lv_iload hx hb dL_law_977 (lv_at hl 1 rfl) ?_
  refine lv_icmp_eq (tgt := 984) hx hb dL_law_979 (by decide) (fun _ => ?_) (fun c9 => absurd hth c9)
  refine lv_iload hx hb dL_law_984 (lv_at hl 1 rfl) ?_
  refine lv_if_ne (tgt := 1001) hx hb dL_law_986 (by decide) (fun c9 => ?_) (fun c9 => ?_)
  · refine lv_goto (tgt := 1184) hx hb dL_law_1001 (by decide) ?_
    exact kk g2 h2 o2 H locs ls hrel hW hM hS (lv_sub hl [2, 3, 4, 5, 6] rfl)
  have hc0 : code = 0 := c9
  have ho2 := hout hc0
  subst ho2
  refine lv_aload_n hx hb dL_law_989 rfl (lv_at hl 3 rfl) ?_
  refine lv_iconst (v := 0) hx hb dL_law_990 (by decide) ?_
  refine l_oget K hW dL_law_991 ?_
  refine lv_iload hx hb dL_law_992 (lv_at hl 0 rfl) ?_
  refine lv_i2l hx hb dL_law_994 rfl ?_
  refine l_lcmp hx hb dL_law_995 ?_
  refine lv_if_eq (tgt := 1001) hx hb dL_law_996 (by decide) (fun _ => ?_) (fun c9 => absurd rfl c9)
  refine lv_goto (tgt := 1184) hx hb dL_law_1001 (by decide) ?_
  exact kk g2 h2 r.toInt64 H locs ls hrel hW hM hS (lv_sub hl [2, 3, 4, 5, 6] rfl)

set_option maxHeartbeats 4000000 in
set_option maxRecDepth 100000 in
theorem law_ofTraveller {p : Program} {l : Launch} {e : Env} {s : State} {m : MethodId} {below : List Frame} {meth : Method} {c : Code} {H : Heap} {locs : List Loc} {cells slots : Nat} {Q : State → Prop} {Z : fx_Z} {ad am : Nat → Nat} {b L i : Nat} {xs : Nat → Int32} {ls : Array Slot} {g h : St} {o : Int64} {Rel : St → St → Prop}
    (K : l_K p s m meth c b L xs Z) (hA : l_ad s ad am) (hop : ∀ a0 a1 : Int32, op_OK l Z ad am Rel yL_ofTraveller cL_ofTraveller 5 [(0, 10, 13, 13), (0, 10, 17, 15)] yX4_ofTraveller cX4_ofTraveller 3 (some .int) [.int a0, .int a1]) (hR : Rel g h) (hW : va_P Z.1 vwCl (iw 116 (wF ad Z.2.1 (g, o))) H) (hM : va_P Z.1 vwCl (iw 22 (mF am (Z.2.1 0) h)) H) (hS : va_S (lA s) s.heap H locs) (hi : i + 5 ≤ L) (hL : L ≤ 2560) (hcs : cells + 2 ≤ room_1.cells ∧ slots + 20 ≤ room_1.slots) (hl : lv_has ls 7 [(4, .int (nI i)), (3, .ref (ad 115)), (2, .ref (am 0)), (1, .ref (ad 0)), (0, .ref b)])
    (kk : ∀ (g2 h2 : St) (o2 : Int64) (H1 : Heap) (locs1 : List Loc) (ls : Array Slot), Rel g2 h2 → va_P Z.1 vwCl (iw 116 (wF ad Z.2.1 (g2, o2))) H1 → va_P Z.1 vwCl (iw 22 (mF am (Z.2.1 0) h2)) H1 → va_S (lA s) s.heap H1 locs1 → lv_has ls 7 [(4, .int (nI i)), (3, .ref (ad 115)), (2, .ref (am 0)), (1, .ref (ad 0)), (0, .ref b)] → W p l e room_1 s m #[Value.ref b] below meth c H1 locs1 (cells + 2) (slots + 20) Q (F0 m 1184 ls [])) :
    W p l e room_1 s m #[Value.ref b] below meth c H locs cells slots Q (F0 m 1004 ls []) := by
  have hx := K.1
  have hb := K.2.1
  have hcs1 := hcs.1
  have hcs2 := hcs.2
  obtain ⟨code, r, ⟨g2, o2⟩, h2, fr, lo, hfr, hlo, hCw, hCm, hth, hout, hrel⟩ := hop (xs (i + 1)) (xs (i + 2)) g h o hR
  have hout : code = 0 → o2 = r.toInt64 := hout
  have hrel : Rel g2 h2 := hrel
  refine lv_aload_n hx hb dL_law_1004 rfl (lv_at hl 3 rfl) ?_
  refine lv_aload_n hx hb dL_law_1005 rfl (lv_at hl 4 rfl) ?_
  refine lv_iload hx hb dL_law_1006 (lv_at hl 0 rfl) ?_
  refine lv_iconst (v := 1) hx hb dL_law_1008 (by decide) ?_
  refine lv_iadd hx hb dL_law_1009 ?_
  rw [show nI i + 1 = nI (i + 1) from nI_add i 1]
  refine l_sld K hS (by omega) (by omega) dL_law_1010 ?_
  refine lv_aload_n hx hb dL_law_1011 rfl (lv_at hl 4 rfl) ?_
  refine lv_iload hx hb dL_law_1012 (lv_at hl 0 rfl) ?_
  refine lv_iconst (v := 2) hx hb dL_law_1014 (by decide) ?_
  refine lv_iadd hx hb dL_law_1015 ?_
  rw [show nI i + 2 = nI (i + 2) from nI_add i 2]
  refine l_sld K hS (by omega) (by omega) dL_law_1016 ?_
  refine lv_aload_n hx hb dL_law_1017 rfl (lv_at hl 1 rfl) ?_
  refine l_wrap (n := 4) (rest := []) K hA hW hM hS hCw (fx_w 657 (by decide +kernel) rfl) (fx_w 655 (by decide +kernel) rfl) (fx_w 656 (by decide +kernel) rfl) (fx_w 36 (by decide +kernel) rfl) ⟨by decide, by decide, by decide +kernel⟩ rfl ⟨by decide, by decide⟩ rfl hl.1 (Nat.le_of_ble_eq_true rfl) ⟨hcs1, hcs2⟩ dL_law_1018 (fun H locs hW hM hS => ?_)
  refine lv_istore (lv' := [(5, .int code), (4, .int (nI i)), (3, .ref (ad 115)), (2, .ref (am 0)), (1, .ref (ad 0)), (0, .ref b)]) hx hb dL_law_1021 hl (by decide) rfl (fun ls hl => ?_)
  refine lv_aload_n hx hb dL_law_1023 rfl (lv_at hl 3 rfl) ?_
  refine lv_aload_n hx hb dL_law_1024 rfl (lv_at hl 5 rfl) ?_
  refine lv_iload hx hb dL_law_1025 (lv_at hl 1 rfl) ?_
  refine lv_iconst (v := 1) hx hb dL_law_1027 (by decide) ?_
  refine lv_iadd hx hb dL_law_1028 ?_
  rw [show nI i + 1 = nI (i + 1) from nI_add i 1]
  refine l_sld K hS (by omega) (by omega) dL_law_1029 ?_
  refine lv_aload_n hx hb dL_law_1030 rfl (lv_at hl 5 rfl) ?_
  refine lv_iload hx hb dL_law_1031 (lv_at hl 1 rfl) ?_
  refine lv_iconst (v := 2) hx hb dL_law_1033 (by decide) ?_
  refine lv_iadd hx hb dL_law_1034 ?_
  rw [show nI i + 2 = nI (i + 2) from nI_add i 2]
  refine l_sld K hS (by omega) (by omega) dL_law_1035 ?_
  refine l_model (rest := []) K hA hW hM hS hCm ok_L_123 rfl ⟨by show fr + 1 ≤ 13; omega, by show 8 + (3 + 11) + lo ≤ 502; omega⟩ rfl hl.1 (Nat.le_of_ble_eq_true rfl) ⟨by show cells + 2 + 0 ≤ room_1.cells; omega, by show slots + 20 + 0 ≤ room_1.slots; omega⟩ dL_law_1036 (fun H locs hW hM hS => ?_)
  refine lv_istore (lv' := [(6, .int r), (5, .int code), (4, .int (nI i)), (3, .ref (ad 115)), (2, .ref (am 0)), (1, .ref (ad 0)), (0, .ref b)]) hx hb dL_law_1039 hl (by decide) rfl (fun ls hl => ?_)
  refine lv_aload_n hx hb dL_law_1041 rfl (lv_at hl 4 rfl) ?_
  refine l_model (rest := []) K hA hW hM hS (c_X4_thrown l Z am hA.2.1 h2) ok_L_78 rfl ⟨by decide, by decide⟩ rfl hl.1 (Nat.le_of_ble_eq_true rfl) ⟨by show cells + 2 + 0 ≤ room_1.cells; omega, by show slots + 20 + 0 ≤ room_1.slots; omega⟩ dL_law_1042 (fun H locs hW hM hS => ?_)
  refine lv_iload hx hb dL_law_1045 (lv_at hl 1 rfl) ?_
  refine lv_icmp_eq (tgt := 1052) hx hb dL_law_1047 (by decide) (fun _ => ?_) (fun c9 => absurd hth c9)
  refine lv_iload hx hb dL_law_1052 (lv_at hl 1 rfl) ?_
  refine lv_if_ne (tgt := 1069) hx hb dL_law_1054 (by decide) (fun c9 => ?_) (fun c9 => ?_)
  · refine lv_goto (tgt := 1184) hx hb dL_law_1069 (by decide) ?_
    exact kk g2 h2 o2 H locs ls hrel hW hM hS (lv_sub hl [2, 3, 4, 5, 6] rfl)
  have hc0 : code = 0 := c9
  have ho2 := hout hc0
  subst ho2
  refine lv_aload_n hx hb dL_law_1057 rfl (lv_at hl 3 rfl) ?_
  refine lv_iconst (v := 0) hx hb dL_law_1058 (by decide) ?_
  refine l_oget K hW dL_law_1059 ?_
  refine lv_iload hx hb dL_law_1060 (lv_at hl 0 rfl) ?_
  refine lv_i2l hx hb dL_law_1062 rfl ?_
  refine l_lcmp hx hb dL_law_1063 ?_
  refine lv_if_eq (tgt := 1069) hx hb dL_law_1064 (by decide) (fun _ => ?_) (fun c9 => absurd rfl c9)
  refine lv_goto (tgt := 1184) hx hb dL_law_1069 (by decide) ?_
  exact kk g2 h2 r.toInt64 H locs ls hrel hW hM hS (lv_sub hl [2, 3, 4, 5, 6] rfl)

set_option maxHeartbeats 4000000 in
set_option maxRecDepth 100000 in
theorem law_refundsAnew {p : Program} {l : Launch} {e : Env} {s : State} {m : MethodId} {below : List Frame} {meth : Method} {c : Code} {H : Heap} {locs : List Loc} {cells slots : Nat} {Q : State → Prop} {Z : fx_Z} {ad am : Nat → Nat} {b L i : Nat} {xs : Nat → Int32} {ls : Array Slot} {g h : St} {o : Int64} {Rel : St → St → Prop}
    (K : l_K p s m meth c b L xs Z) (hA : l_ad s ad am) (hop : ∀ a0 : Int32, op_OK l Z ad am Rel yL_refundsAnew cL_refundsAnew 4 [(0, 9, 12, 13)] yX4_refundsAnew cX4_refundsAnew 2 (some .int) [.int a0]) (hR : Rel g h) (hW : va_P Z.1 vwCl (iw 116 (wF ad Z.2.1 (g, o))) H) (hM : va_P Z.1 vwCl (iw 22 (mF am (Z.2.1 0) h)) H) (hS : va_S (lA s) s.heap H locs) (hi : i + 5 ≤ L) (hL : L ≤ 2560) (hcs : cells + 2 ≤ room_1.cells ∧ slots + 20 ≤ room_1.slots) (hl : lv_has ls 7 [(4, .int (nI i)), (3, .ref (ad 115)), (2, .ref (am 0)), (1, .ref (ad 0)), (0, .ref b)])
    (kk : ∀ (g2 h2 : St) (o2 : Int64) (H1 : Heap) (locs1 : List Loc) (ls : Array Slot), Rel g2 h2 → va_P Z.1 vwCl (iw 116 (wF ad Z.2.1 (g2, o2))) H1 → va_P Z.1 vwCl (iw 22 (mF am (Z.2.1 0) h2)) H1 → va_S (lA s) s.heap H1 locs1 → lv_has ls 7 [(4, .int (nI i)), (3, .ref (ad 115)), (2, .ref (am 0)), (1, .ref (ad 0)), (0, .ref b)] → W p l e room_1 s m #[Value.ref b] below meth c H1 locs1 (cells + 2) (slots + 20) Q (F0 m 1184 ls [])) :
    W p l e room_1 s m #[Value.ref b] below meth c H locs cells slots Q (F0 m 1072 ls []) := by
  have hx := K.1
  have hb := K.2.1
  have hcs1 := hcs.1
  have hcs2 := hcs.2
  obtain ⟨code, r, ⟨g2, o2⟩, h2, fr, lo, hfr, hlo, hCw, hCm, hth, hout, hrel⟩ := hop (xs (i + 1)) g h o hR
  have hout : code = 0 → o2 = r.toInt64 := hout
  have hrel : Rel g2 h2 := hrel
  refine lv_aload_n hx hb dL_law_1072 rfl (lv_at hl 3 rfl) ?_
  refine lv_aload_n hx hb dL_law_1073 rfl (lv_at hl 4 rfl) ?_
  refine lv_iload hx hb dL_law_1074 (lv_at hl 0 rfl) ?_
  refine lv_iconst (v := 1) hx hb dL_law_1076 (by decide) ?_
  refine lv_iadd hx hb dL_law_1077 ?_
  rw [show nI i + 1 = nI (i + 1) from nI_add i 1]
  refine l_sld K hS (by omega) (by omega) dL_law_1078 ?_
  refine lv_aload_n hx hb dL_law_1079 rfl (lv_at hl 1 rfl) ?_
  refine l_wrap (n := 3) (rest := []) K hA hW hM hS hCw (fx_w 664 (by decide +kernel) rfl) (fx_w 662 (by decide +kernel) rfl) (fx_w 663 (by decide +kernel) rfl) (fx_w 36 (by decide +kernel) rfl) ⟨by decide, by decide, by decide +kernel⟩ rfl ⟨by decide, by decide⟩ rfl hl.1 (Nat.le_of_ble_eq_true rfl) ⟨hcs1, hcs2⟩ dL_law_1080 (fun H locs hW hM hS => ?_)
  refine lv_istore (lv' := [(5, .int code), (4, .int (nI i)), (3, .ref (ad 115)), (2, .ref (am 0)), (1, .ref (ad 0)), (0, .ref b)]) hx hb dL_law_1083 hl (by decide) rfl (fun ls hl => ?_)
  refine lv_aload_n hx hb dL_law_1085 rfl (lv_at hl 3 rfl) ?_
  refine lv_aload_n hx hb dL_law_1086 rfl (lv_at hl 5 rfl) ?_
  refine lv_iload hx hb dL_law_1087 (lv_at hl 1 rfl) ?_
  refine lv_iconst (v := 1) hx hb dL_law_1089 (by decide) ?_
  refine lv_iadd hx hb dL_law_1090 ?_
  rw [show nI i + 1 = nI (i + 1) from nI_add i 1]
  refine l_sld K hS (by omega) (by omega) dL_law_1091 ?_
  refine l_model (rest := []) K hA hW hM hS hCm ok_L_126 rfl ⟨by show fr + 1 ≤ 13; omega, by show 8 + (2 + 11) + lo ≤ 502; omega⟩ rfl hl.1 (Nat.le_of_ble_eq_true rfl) ⟨by show cells + 2 + 0 ≤ room_1.cells; omega, by show slots + 20 + 0 ≤ room_1.slots; omega⟩ dL_law_1092 (fun H locs hW hM hS => ?_)
  refine lv_istore (lv' := [(6, .int r), (5, .int code), (4, .int (nI i)), (3, .ref (ad 115)), (2, .ref (am 0)), (1, .ref (ad 0)), (0, .ref b)]) hx hb dL_law_1095 hl (by decide) rfl (fun ls hl => ?_)
  refine lv_aload_n hx hb dL_law_1097 rfl (lv_at hl 4 rfl) ?_
  refine l_model (rest := []) K hA hW hM hS (c_X4_thrown l Z am hA.2.1 h2) ok_L_78 rfl ⟨by decide, by decide⟩ rfl hl.1 (Nat.le_of_ble_eq_true rfl) ⟨by show cells + 2 + 0 ≤ room_1.cells; omega, by show slots + 20 + 0 ≤ room_1.slots; omega⟩ dL_law_1098 (fun H locs hW hM hS => ?_)
  refine lv_iload hx hb dL_law_1101 (lv_at hl 1 rfl) ?_
  refine lv_icmp_eq (tgt := 1108) hx hb dL_law_1103 (by decide) (fun _ => ?_) (fun c9 => absurd hth c9)
  refine lv_iload hx hb dL_law_1108 (lv_at hl 1 rfl) ?_
  refine lv_if_ne (tgt := 1125) hx hb dL_law_1110 (by decide) (fun c9 => ?_) (fun c9 => ?_)
  · refine lv_goto (tgt := 1184) hx hb dL_law_1125 (by decide) ?_
    exact kk g2 h2 o2 H locs ls hrel hW hM hS (lv_sub hl [2, 3, 4, 5, 6] rfl)
  have hc0 : code = 0 := c9
  have ho2 := hout hc0
  subst ho2
  refine lv_aload_n hx hb dL_law_1113 rfl (lv_at hl 3 rfl) ?_
  refine lv_iconst (v := 0) hx hb dL_law_1114 (by decide) ?_
  refine l_oget K hW dL_law_1115 ?_
  refine lv_iload hx hb dL_law_1116 (lv_at hl 0 rfl) ?_
  refine lv_i2l hx hb dL_law_1118 rfl ?_
  refine l_lcmp hx hb dL_law_1119 ?_
  refine lv_if_eq (tgt := 1125) hx hb dL_law_1120 (by decide) (fun _ => ?_) (fun c9 => absurd rfl c9)
  refine lv_goto (tgt := 1184) hx hb dL_law_1125 (by decide) ?_
  exact kk g2 h2 r.toInt64 H locs ls hrel hW hM hS (lv_sub hl [2, 3, 4, 5, 6] rfl)

set_option maxHeartbeats 4000000 in
set_option maxRecDepth 100000 in
theorem law_debt {p : Program} {l : Launch} {e : Env} {s : State} {m : MethodId} {below : List Frame} {meth : Method} {c : Code} {H : Heap} {locs : List Loc} {cells slots : Nat} {Q : State → Prop} {Z : fx_Z} {ad am : Nat → Nat} {b L i : Nat} {xs : Nat → Int32} {ls : Array Slot} {g h : St} {o : Int64} {Rel : St → St → Prop}
    (K : l_K p s m meth c b L xs Z) (hA : l_ad s ad am) (hop : ∀ a0 : Int32, op_OK l Z ad am Rel yL_debt cL_debt 4 [(0, 9, 12, 13)] yX4_debt cX4_debt 4 (some .int) [.int a0]) (hR : Rel g h) (hW : va_P Z.1 vwCl (iw 116 (wF ad Z.2.1 (g, o))) H) (hM : va_P Z.1 vwCl (iw 22 (mF am (Z.2.1 0) h)) H) (hS : va_S (lA s) s.heap H locs) (hi : i + 5 ≤ L) (hL : L ≤ 2560) (hcs : cells + 2 ≤ room_1.cells ∧ slots + 20 ≤ room_1.slots) (hl : lv_has ls 7 [(4, .int (nI i)), (3, .ref (ad 115)), (2, .ref (am 0)), (1, .ref (ad 0)), (0, .ref b)])
    (kk : ∀ (g2 h2 : St) (o2 : Int64) (H1 : Heap) (locs1 : List Loc) (ls : Array Slot), Rel g2 h2 → va_P Z.1 vwCl (iw 116 (wF ad Z.2.1 (g2, o2))) H1 → va_P Z.1 vwCl (iw 22 (mF am (Z.2.1 0) h2)) H1 → va_S (lA s) s.heap H1 locs1 → lv_has ls 7 [(4, .int (nI i)), (3, .ref (ad 115)), (2, .ref (am 0)), (1, .ref (ad 0)), (0, .ref b)] → W p l e room_1 s m #[Value.ref b] below meth c H1 locs1 (cells + 2) (slots + 20) Q (F0 m 1184 ls [])) :
    W p l e room_1 s m #[Value.ref b] below meth c H locs cells slots Q (F0 m 1128 ls []) := by
  have hx := K.1
  have hb := K.2.1
  have hcs1 := hcs.1
  have hcs2 := hcs.2
  obtain ⟨code, r, ⟨g2, o2⟩, h2, fr, lo, hfr, hlo, hCw, hCm, hth, hout, hrel⟩ := hop (xs (i + 1)) g h o hR
  have hout : code = 0 → o2 = r.toInt64 := hout
  have hrel : Rel g2 h2 := hrel
  refine lv_aload_n hx hb dL_law_1128 rfl (lv_at hl 3 rfl) ?_
  refine lv_aload_n hx hb dL_law_1129 rfl (lv_at hl 4 rfl) ?_
  refine lv_iload hx hb dL_law_1130 (lv_at hl 0 rfl) ?_
  refine lv_iconst (v := 1) hx hb dL_law_1132 (by decide) ?_
  refine lv_iadd hx hb dL_law_1133 ?_
  rw [show nI i + 1 = nI (i + 1) from nI_add i 1]
  refine l_sld K hS (by omega) (by omega) dL_law_1134 ?_
  refine lv_aload_n hx hb dL_law_1135 rfl (lv_at hl 1 rfl) ?_
  refine l_wrap (n := 3) (rest := []) K hA hW hM hS hCw (fx_w 675 (by decide +kernel) rfl) (fx_w 673 (by decide +kernel) rfl) (fx_w 674 (by decide +kernel) rfl) (fx_w 36 (by decide +kernel) rfl) ⟨by decide, by decide, by decide +kernel⟩ rfl ⟨by decide, by decide⟩ rfl hl.1 (Nat.le_of_ble_eq_true rfl) ⟨hcs1, hcs2⟩ dL_law_1136 (fun H locs hW hM hS => ?_)
  refine lv_istore (lv' := [(5, .int code), (4, .int (nI i)), (3, .ref (ad 115)), (2, .ref (am 0)), (1, .ref (ad 0)), (0, .ref b)]) hx hb dL_law_1139 hl (by decide) rfl (fun ls hl => ?_)
  refine lv_aload_n hx hb dL_law_1141 rfl (lv_at hl 3 rfl) ?_
  refine lv_aload_n hx hb dL_law_1142 rfl (lv_at hl 5 rfl) ?_
  refine lv_iload hx hb dL_law_1143 (lv_at hl 1 rfl) ?_
  refine lv_iconst (v := 1) hx hb dL_law_1145 (by decide) ?_
  refine lv_iadd hx hb dL_law_1146 ?_
  rw [show nI i + 1 = nI (i + 1) from nI_add i 1]
  refine l_sld K hS (by omega) (by omega) dL_law_1147 ?_
  refine l_model (rest := []) K hA hW hM hS hCm ok_L_129 rfl ⟨by show fr + 1 ≤ 13; omega, by show 8 + (4 + 11) + lo ≤ 502; omega⟩ rfl hl.1 (Nat.le_of_ble_eq_true rfl) ⟨by show cells + 2 + 0 ≤ room_1.cells; omega, by show slots + 20 + 0 ≤ room_1.slots; omega⟩ dL_law_1148 (fun H locs hW hM hS => ?_)
  refine lv_istore (lv' := [(6, .int r), (5, .int code), (4, .int (nI i)), (3, .ref (ad 115)), (2, .ref (am 0)), (1, .ref (ad 0)), (0, .ref b)]) hx hb dL_law_1151 hl (by decide) rfl (fun ls hl => ?_)
  refine lv_aload_n hx hb dL_law_1153 rfl (lv_at hl 4 rfl) ?_
  refine l_model (rest := []) K hA hW hM hS (c_X4_thrown l Z am hA.2.1 h2) ok_L_78 rfl ⟨by decide, by decide⟩ rfl hl.1 (Nat.le_of_ble_eq_true rfl) ⟨by show cells + 2 + 0 ≤ room_1.cells; omega, by show slots + 20 + 0 ≤ room_1.slots; omega⟩ dL_law_1154 (fun H locs hW hM hS => ?_)
  refine lv_iload hx hb dL_law_1157 (lv_at hl 1 rfl) ?_
  refine lv_icmp_eq (tgt := 1164) hx hb dL_law_1159 (by decide) (fun _ => ?_) (fun c9 => absurd hth c9)
  refine lv_iload hx hb dL_law_1164 (lv_at hl 1 rfl) ?_
  refine lv_if_ne (tgt := 1181) hx hb dL_law_1166 (by decide) (fun c9 => ?_) (fun c9 => ?_)
  · refine lv_goto (tgt := 1184) hx hb dL_law_1181 (by decide) ?_
    exact kk g2 h2 o2 H locs ls hrel hW hM hS (lv_sub hl [2, 3, 4, 5, 6] rfl)
  have hc0 : code = 0 := c9
  have ho2 := hout hc0
  subst ho2
  refine lv_aload_n hx hb dL_law_1169 rfl (lv_at hl 3 rfl) ?_
  refine lv_iconst (v := 0) hx hb dL_law_1170 (by decide) ?_
  refine l_oget K hW dL_law_1171 ?_
  refine lv_iload hx hb dL_law_1172 (lv_at hl 0 rfl) ?_
  refine lv_i2l hx hb dL_law_1174 rfl ?_
  refine l_lcmp hx hb dL_law_1175 ?_
  refine lv_if_eq (tgt := 1181) hx hb dL_law_1176 (by decide) (fun _ => ?_) (fun c9 => absurd rfl c9)
  refine lv_goto (tgt := 1184) hx hb dL_law_1181 (by decide) ?_
  exact kk g2 h2 r.toInt64 H locs ls hrel hW hM hS (lv_sub hl [2, 3, 4, 5, 6] rfl)
