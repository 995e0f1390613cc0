section
variable {G : am_G} {L : Nat} {xs : Nat → Int32} {σ : am_D} {i : Int}
theorem am_r_b01 {p1 p2 p3 p4 pc : Nat} {cs : Nat × Nat} {ls : am_LS} {st : List am_V} {h : am_H} {v o1 o2 : Int} (hv : ab_r v) (hd : decode code pc = .ok (.ifCond .eq o1, 3)) (ht : (pc : Int) + o1 = (p2 : Int)) (hn : pc + 3 = p1) (hd1 : decode code p1 = .ok (.iconst 1, 1)) (hn1 : p1 + 1 = p3) (hd3 : decode code p3 = .ok (.goto o2, 3)) (ht3 : (p3 : Int) + o2 = (p4 : Int)) (hd2 : decode code p2 = .ok (.iconst 0, 1)) (hn2 : p2 + 1 = p4) (k : am_X (lw_F G L xs) mL cs p4 ls (am_i (sb_i (decide (v ≠ 0))) :: st) h) : am_X (lw_F G L xs) mL cs pc ls (.inl v :: st) h := by
  refine am_r_if_eq (tg := p2) (nx := p1) hd ht hn hv (fun z => ?_) (fun z => ?_)
  · refine am_r_iconst (nx := p4) hd2 hn2 ?_
    rw [decide_eq_false (fun y => y z)] at k
    exact k
  · refine am_r_iconst (nx := p3) hd1 hn1 ?_
    refine am_r_goto (tg := p4) hd3 ht3 ?_
    rw [decide_eq_true z] at k
    exact k
theorem l_c0 (h0 : 0 ≤ i) (h1 : i + 6 ≤ L) (hL : L ≤ 3072) (hJ : ab_J σ) (next : ∀ σ' : am_D, ab_J σ' → am_X (lw_F G L xs) mL (137, 119026) 887 (lw_ls i) [] (am_K0, σ')) : am_X (lw_F G L xs) mL (137, 119026) 152 (lw_ls i) [] (am_K0, σ) := by
  refine am_r_aload_n (nx := 153) rfl rfl (show decode code 152 = .ok (.aload_n 1, 1) by decide +kernel) rfl ?_
  refine am_r_aload_nS (nx := 154) rfl rfl (show decode code 153 = .ok (.aload_n 0, 1) by decide +kernel) rfl ?_
  refine am_r_iload_n (nx := 155) rfl rfl (show decode code 154 = .ok (.iload_n 3, 1) by decide +kernel) rfl ?_
  refine am_r_iconst (nx := 156) (show decode code 155 = .ok (.iconst 1, 1) by decide +kernel) rfl ?_
  refine am_r_iadd (nx := 157) (show decode code 156 = .ok (.iadd, 1) by decide +kernel) rfl ?_
  refine am_r_sld (nx := 158) (by omega) (by omega) hL (show decode code 157 = .ok (.iaload, 1) by decide +kernel) rfl ?_
  refine am_r_aload_nS (nx := 159) rfl rfl (show decode code 158 = .ok (.aload_n 0, 1) by decide +kernel) rfl ?_
  refine am_r_iload_n (nx := 160) rfl rfl (show decode code 159 = .ok (.iload_n 3, 1) by decide +kernel) rfl ?_
  refine am_r_iconst (nx := 161) (show decode code 160 = .ok (.iconst 2, 1) by decide +kernel) rfl ?_
  refine am_r_iadd (nx := 162) (show decode code 161 = .ok (.iadd, 1) by decide +kernel) rfl ?_
  refine am_r_sld (nx := 163) (by omega) (by omega) hL (show decode code 162 = .ok (.iaload, 1) by decide +kernel) rfl ?_
  refine am_r_aload_nS (nx := 164) rfl rfl (show decode code 163 = .ok (.aload_n 0, 1) by decide +kernel) rfl ?_
  refine am_r_iload_n (nx := 165) rfl rfl (show decode code 164 = .ok (.iload_n 3, 1) by decide +kernel) rfl ?_
  refine am_r_iconst (nx := 166) (show decode code 165 = .ok (.iconst 3, 1) by decide +kernel) rfl ?_
  refine am_r_iadd (nx := 167) (show decode code 166 = .ok (.iadd, 1) by decide +kernel) rfl ?_
  refine am_r_sld (nx := 168) (by omega) (by omega) hL (show decode code 167 = .ok (.iaload, 1) by decide +kernel) rfl ?_
  refine am_r_aload_nS (nx := 169) rfl rfl (show decode code 168 = .ok (.aload_n 0, 1) by decide +kernel) rfl ?_
  refine am_r_iload_n (nx := 170) rfl rfl (show decode code 169 = .ok (.iload_n 3, 1) by decide +kernel) rfl ?_
  refine am_r_iconst (nx := 171) (show decode code 170 = .ok (.iconst 4, 1) by decide +kernel) rfl ?_
  refine am_r_iadd (nx := 172) (show decode code 171 = .ok (.iadd, 1) by decide +kernel) rfl ?_
  refine am_r_sld (nx := 173) (by omega) (by omega) hL (show decode code 172 = .ok (.iaload, 1) by decide +kernel) rfl ?_
  refine am_r_aload_nS (nx := 174) rfl rfl (show decode code 173 = .ok (.aload_n 0, 1) by decide +kernel) rfl ?_
  refine am_r_iload_n (nx := 175) rfl rfl (show decode code 174 = .ok (.iload_n 3, 1) by decide +kernel) rfl ?_
  refine am_r_iconst (nx := 176) (show decode code 175 = .ok (.iconst 5, 1) by decide +kernel) rfl ?_
  refine am_r_iadd (nx := 177) (show decode code 176 = .ok (.iadd, 1) by decide +kernel) rfl ?_
  refine am_r_sld (nx := 178) (by omega) (by omega) hL (show decode code 177 = .ok (.iaload, 1) by decide +kernel) rfl ?_
  refine am_r_callV (d := 60) (mc := 0) (ms := 0) (as := [am_i (lw_v xs (i + 1)), am_i (lw_v xs (i + 2)), am_i (lw_v xs (i + 3)), am_i (lw_v xs (i + 4)), am_i (lw_v xs (i + 5))]) (st := []) (j_feed (lw_r _ _) (lw_r _ _) (lw_r _ _) (lw_r _ _) (lw_r _ _) hJ) mb_X10_feed mv_X10_feed (Or.inl ml_L_13) ob_0 (by omega) (r := (RX10, TX10, 14)) rfl rfl rfl rfl (Nat.le_of_ble_eq_true rfl) ⟨Nat.le_of_ble_eq_true rfl, Nat.le_of_ble_eq_true rfl⟩ ⟨Nat.le_of_ble_eq_true rfl, Nat.le_of_ble_eq_true rfl⟩ (show decode code 178 = .ok (.invokevirtual 13, 3) by decide +kernel) ?_
  rintro _ _ ⟨x, σ1, rfl, rfl, hq⟩ _
  refine am_r_aload_n (nx := 182) rfl rfl (show decode code 181 = .ok (.aload_n 2, 1) by decide +kernel) rfl ?_
  refine am_r_aload_nS (nx := 183) rfl rfl (show decode code 182 = .ok (.aload_n 0, 1) by decide +kernel) rfl ?_
  refine am_r_iload_n (nx := 184) rfl rfl (show decode code 183 = .ok (.iload_n 3, 1) by decide +kernel) rfl ?_
  refine am_r_iconst (nx := 185) (show decode code 184 = .ok (.iconst 1, 1) by decide +kernel) rfl ?_
  refine am_r_iadd (nx := 186) (show decode code 185 = .ok (.iadd, 1) by decide +kernel) rfl ?_
  refine am_r_sld (nx := 187) (by omega) (by omega) hL (show decode code 186 = .ok (.iaload, 1) by decide +kernel) rfl ?_
  refine am_r_aload_nS (nx := 188) rfl rfl (show decode code 187 = .ok (.aload_n 0, 1) by decide +kernel) rfl ?_
  refine am_r_iload_n (nx := 189) rfl rfl (show decode code 188 = .ok (.iload_n 3, 1) by decide +kernel) rfl ?_
  refine am_r_iconst (nx := 190) (show decode code 189 = .ok (.iconst 2, 1) by decide +kernel) rfl ?_
  refine am_r_iadd (nx := 191) (show decode code 190 = .ok (.iadd, 1) by decide +kernel) rfl ?_
  refine am_r_sld (nx := 192) (by omega) (by omega) hL (show decode code 191 = .ok (.iaload, 1) by decide +kernel) rfl ?_
  refine am_r_aload_nS (nx := 193) rfl rfl (show decode code 192 = .ok (.aload_n 0, 1) by decide +kernel) rfl ?_
  refine am_r_iload_n (nx := 194) rfl rfl (show decode code 193 = .ok (.iload_n 3, 1) by decide +kernel) rfl ?_
  refine am_r_iconst (nx := 195) (show decode code 194 = .ok (.iconst 3, 1) by decide +kernel) rfl ?_
  refine am_r_iadd (nx := 196) (show decode code 195 = .ok (.iadd, 1) by decide +kernel) rfl ?_
  refine am_r_sld (nx := 197) (by omega) (by omega) hL (show decode code 196 = .ok (.iaload, 1) by decide +kernel) rfl ?_
  refine am_r_aload_nS (nx := 198) rfl rfl (show decode code 197 = .ok (.aload_n 0, 1) by decide +kernel) rfl ?_
  refine am_r_iload_n (nx := 199) rfl rfl (show decode code 198 = .ok (.iload_n 3, 1) by decide +kernel) rfl ?_
  refine am_r_iconst (nx := 200) (show decode code 199 = .ok (.iconst 4, 1) by decide +kernel) rfl ?_
  refine am_r_iadd (nx := 201) (show decode code 200 = .ok (.iadd, 1) by decide +kernel) rfl ?_
  refine am_r_sld (nx := 202) (by omega) (by omega) hL (show decode code 201 = .ok (.iaload, 1) by decide +kernel) rfl ?_
  refine am_r_aload_nS (nx := 203) rfl rfl (show decode code 202 = .ok (.aload_n 0, 1) by decide +kernel) rfl ?_
  refine am_r_iload_n (nx := 204) rfl rfl (show decode code 203 = .ok (.iload_n 3, 1) by decide +kernel) rfl ?_
  refine am_r_iconst (nx := 205) (show decode code 204 = .ok (.iconst 5, 1) by decide +kernel) rfl ?_
  refine am_r_iadd (nx := 206) (show decode code 205 = .ok (.iadd, 1) by decide +kernel) rfl ?_
  refine am_r_sld (nx := 207) (by omega) (by omega) hL (show decode code 206 = .ok (.iaload, 1) by decide +kernel) rfl ?_
  refine am_r_callV (d := 60) (mc := 0) (ms := 0) (as := [am_i (lw_v xs (i + 1)), am_i (lw_v xs (i + 2)), am_i (lw_v xs (i + 3)), am_i (lw_v xs (i + 4)), am_i (lw_v xs (i + 5))]) (st := [am_i x]) hq mb_X11_feed mv_X11_feed (Or.inl ml_L_17) ob_91 (by omega) (r := (RX11, TX11, 63)) rfl rfl rfl rfl (Nat.le_of_ble_eq_true rfl) ⟨Nat.le_of_ble_eq_true rfl, Nat.le_of_ble_eq_true rfl⟩ ⟨Nat.le_of_ble_eq_true rfl, Nat.le_of_ble_eq_true rfl⟩ (show decode code 207 = .ok (.invokevirtual 17, 3) by decide +kernel) ?_
  rintro _ _ ⟨_, σ2, rfl, rfl, rfl, hJ2⟩ _
  exact am_r_icmp_same (tg := 887) (show decode code 210 = .ok (.if_icmp .eq 677, 3) by decide +kernel) (by decide) (next σ2 hJ2)
theorem l_c1 (h0 : 0 ≤ i) (h1 : i + 6 ≤ L) (hL : L ≤ 3072) (hJ : ab_J σ) (next : ∀ σ' : am_D, ab_J σ' → am_X (lw_F G L xs) mL (137, 119026) 887 (lw_ls i) [] (am_K0, σ')) : am_X (lw_F G L xs) mL (137, 119026) 215 (lw_ls i) [] (am_K0, σ) := by
  refine am_r_aload_n (nx := 216) rfl rfl (show decode code 215 = .ok (.aload_n 1, 1) by decide +kernel) rfl ?_
  refine am_r_aload_nS (nx := 217) rfl rfl (show decode code 216 = .ok (.aload_n 0, 1) by decide +kernel) rfl ?_
  refine am_r_iload_n (nx := 218) rfl rfl (show decode code 217 = .ok (.iload_n 3, 1) by decide +kernel) rfl ?_
  refine am_r_iconst (nx := 219) (show decode code 218 = .ok (.iconst 1, 1) by decide +kernel) rfl ?_
  refine am_r_iadd (nx := 220) (show decode code 219 = .ok (.iadd, 1) by decide +kernel) rfl ?_
  refine am_r_sld (nx := 221) (by omega) (by omega) hL (show decode code 220 = .ok (.iaload, 1) by decide +kernel) rfl ?_
  refine am_r_callV (d := 60) (mc := 0) (ms := 0) (as := [am_i (lw_v xs (i + 1))]) (st := []) (j_end (lw_r _ _) hJ) mb_X10_end mv_X10_end (Or.inl ml_L_18) ob_0 (by omega) (r := (RX10, TX10, 14)) rfl rfl rfl rfl (Nat.le_of_ble_eq_true rfl) ⟨Nat.le_of_ble_eq_true rfl, Nat.le_of_ble_eq_true rfl⟩ ⟨Nat.le_of_ble_eq_true rfl, Nat.le_of_ble_eq_true rfl⟩ (show decode code 221 = .ok (.invokevirtual 18, 3) by decide +kernel) ?_
  rintro _ _ ⟨x, σ1, rfl, rfl, hq⟩ _
  refine am_r_aload_n (nx := 225) rfl rfl (show decode code 224 = .ok (.aload_n 2, 1) by decide +kernel) rfl ?_
  refine am_r_aload_nS (nx := 226) rfl rfl (show decode code 225 = .ok (.aload_n 0, 1) by decide +kernel) rfl ?_
  refine am_r_iload_n (nx := 227) rfl rfl (show decode code 226 = .ok (.iload_n 3, 1) by decide +kernel) rfl ?_
  refine am_r_iconst (nx := 228) (show decode code 227 = .ok (.iconst 1, 1) by decide +kernel) rfl ?_
  refine am_r_iadd (nx := 229) (show decode code 228 = .ok (.iadd, 1) by decide +kernel) rfl ?_
  refine am_r_sld (nx := 230) (by omega) (by omega) hL (show decode code 229 = .ok (.iaload, 1) by decide +kernel) rfl ?_
  refine am_r_callV (d := 60) (mc := 0) (ms := 0) (as := [am_i (lw_v xs (i + 1))]) (st := [am_i x]) hq mb_X11_end mv_X11_end (Or.inl ml_L_22) ob_91 (by omega) (r := (RX11, TX11, 63)) rfl rfl rfl rfl (Nat.le_of_ble_eq_true rfl) ⟨Nat.le_of_ble_eq_true rfl, Nat.le_of_ble_eq_true rfl⟩ ⟨Nat.le_of_ble_eq_true rfl, Nat.le_of_ble_eq_true rfl⟩ (show decode code 230 = .ok (.invokevirtual 22, 3) by decide +kernel) ?_
  rintro _ _ ⟨_, σ2, rfl, rfl, rfl, hJ2⟩ _
  exact am_r_icmp_same (tg := 887) (show decode code 233 = .ok (.if_icmp .eq 654, 3) by decide +kernel) (by decide) (next σ2 hJ2)
theorem l_c2 (h0 : 0 ≤ i) (h1 : i + 6 ≤ L) (hL : L ≤ 3072) (hJ : ab_J σ) (next : ∀ σ' : am_D, ab_J σ' → am_X (lw_F G L xs) mL (137, 119026) 887 (lw_ls i) [] (am_K0, σ')) : am_X (lw_F G L xs) mL (137, 119026) 238 (lw_ls i) [] (am_K0, σ) := by
  refine am_r_aload_n (nx := 239) rfl rfl (show decode code 238 = .ok (.aload_n 1, 1) by decide +kernel) rfl ?_
  refine am_r_aload_nS (nx := 240) rfl rfl (show decode code 239 = .ok (.aload_n 0, 1) by decide +kernel) rfl ?_
  refine am_r_iload_n (nx := 241) rfl rfl (show decode code 240 = .ok (.iload_n 3, 1) by decide +kernel) rfl ?_
  refine am_r_iconst (nx := 242) (show decode code 241 = .ok (.iconst 1, 1) by decide +kernel) rfl ?_
  refine am_r_iadd (nx := 243) (show decode code 242 = .ok (.iadd, 1) by decide +kernel) rfl ?_
  refine am_r_sld (nx := 244) (by omega) (by omega) hL (show decode code 243 = .ok (.iaload, 1) by decide +kernel) rfl ?_
  refine am_r_callV (d := 60) (mc := 0) (ms := 0) (as := [am_i (lw_v xs (i + 1))]) (st := []) (j_machine (lw_r _ _) hJ) mb_X10_machine mv_X10_machine (Or.inl ml_L_23) ob_0 (by omega) (r := (RX10, TX10, 14)) rfl rfl rfl rfl (Nat.le_of_ble_eq_true rfl) ⟨Nat.le_of_ble_eq_true rfl, Nat.le_of_ble_eq_true rfl⟩ ⟨Nat.le_of_ble_eq_true rfl, Nat.le_of_ble_eq_true rfl⟩ (show decode code 244 = .ok (.invokevirtual 23, 3) by decide +kernel) ?_
  rintro _ _ ⟨x, σ1, rfl, rfl, hq⟩ _
  refine am_r_aload_n (nx := 248) rfl rfl (show decode code 247 = .ok (.aload_n 2, 1) by decide +kernel) rfl ?_
  refine am_r_aload_nS (nx := 249) rfl rfl (show decode code 248 = .ok (.aload_n 0, 1) by decide +kernel) rfl ?_
  refine am_r_iload_n (nx := 250) rfl rfl (show decode code 249 = .ok (.iload_n 3, 1) by decide +kernel) rfl ?_
  refine am_r_iconst (nx := 251) (show decode code 250 = .ok (.iconst 1, 1) by decide +kernel) rfl ?_
  refine am_r_iadd (nx := 252) (show decode code 251 = .ok (.iadd, 1) by decide +kernel) rfl ?_
  refine am_r_sld (nx := 253) (by omega) (by omega) hL (show decode code 252 = .ok (.iaload, 1) by decide +kernel) rfl ?_
  refine am_r_callV (d := 60) (mc := 0) (ms := 0) (as := [am_i (lw_v xs (i + 1))]) (st := [am_i x]) hq mb_X11_machine mv_X11_machine (Or.inl ml_L_27) ob_91 (by omega) (r := (RX11, TX11, 63)) rfl rfl rfl rfl (Nat.le_of_ble_eq_true rfl) ⟨Nat.le_of_ble_eq_true rfl, Nat.le_of_ble_eq_true rfl⟩ ⟨Nat.le_of_ble_eq_true rfl, Nat.le_of_ble_eq_true rfl⟩ (show decode code 253 = .ok (.invokevirtual 27, 3) by decide +kernel) ?_
  rintro _ _ ⟨_, σ2, rfl, rfl, rfl, hJ2⟩ _
  exact am_r_icmp_same (tg := 887) (show decode code 256 = .ok (.if_icmp .eq 631, 3) by decide +kernel) (by decide) (next σ2 hJ2)
theorem l_c3 (h0 : 0 ≤ i) (h1 : i + 6 ≤ L) (hL : L ≤ 3072) (hJ : ab_J σ) (next : ∀ σ' : am_D, ab_J σ' → am_X (lw_F G L xs) mL (137, 119026) 887 (lw_ls i) [] (am_K0, σ')) : am_X (lw_F G L xs) mL (137, 119026) 261 (lw_ls i) [] (am_K0, σ) := by
  refine am_r_aload_n (nx := 262) rfl rfl (show decode code 261 = .ok (.aload_n 1, 1) by decide +kernel) rfl ?_
  refine am_r_callV (d := 60) (mc := 0) (ms := 0) (as := []) (st := []) (j_document hJ) mb_X10_document mv_X10_document (Or.inl ml_L_28) ob_0 (by omega) (r := (RX10, TX10, 14)) rfl rfl rfl rfl (Nat.le_of_ble_eq_true rfl) ⟨Nat.le_of_ble_eq_true rfl, Nat.le_of_ble_eq_true rfl⟩ ⟨Nat.le_of_ble_eq_true rfl, Nat.le_of_ble_eq_true rfl⟩ (show decode code 262 = .ok (.invokevirtual 28, 3) by decide +kernel) ?_
  rintro _ _ ⟨x, σ1, rfl, rfl, hq⟩ _
  refine am_r_aload_n (nx := 266) rfl rfl (show decode code 265 = .ok (.aload_n 2, 1) by decide +kernel) rfl ?_
  refine am_r_callV (d := 60) (mc := 0) (ms := 0) (as := []) (st := [am_i x]) hq mb_X11_document mv_X11_document (Or.inl ml_L_32) ob_91 (by omega) (r := (RX11, TX11, 63)) rfl rfl rfl rfl (Nat.le_of_ble_eq_true rfl) ⟨Nat.le_of_ble_eq_true rfl, Nat.le_of_ble_eq_true rfl⟩ ⟨Nat.le_of_ble_eq_true rfl, Nat.le_of_ble_eq_true rfl⟩ (show decode code 266 = .ok (.invokevirtual 32, 3) by decide +kernel) ?_
  rintro _ _ ⟨_, σ2, rfl, rfl, rfl, hJ2⟩ _
  exact am_r_icmp_same (tg := 887) (show decode code 269 = .ok (.if_icmp .eq 618, 3) by decide +kernel) (by decide) (next σ2 hJ2)
theorem l_c4 (h0 : 0 ≤ i) (h1 : i + 6 ≤ L) (hL : L ≤ 3072) (hJ : ab_J σ) (next : ∀ σ' : am_D, ab_J σ' → am_X (lw_F G L xs) mL (137, 119026) 887 (lw_ls i) [] (am_K0, σ')) : am_X (lw_F G L xs) mL (137, 119026) 274 (lw_ls i) [] (am_K0, σ) := by
  refine am_r_aload_n (nx := 275) rfl rfl (show decode code 274 = .ok (.aload_n 1, 1) by decide +kernel) rfl ?_
  refine am_r_callV (d := 60) (mc := 0) (ms := 0) (as := []) (st := []) (j_fault hJ) mb_X10_fault mv_X10_fault (Or.inl ml_L_33) ob_0 (by omega) (r := (RX10, TX10, 14)) rfl rfl rfl rfl (Nat.le_of_ble_eq_true rfl) ⟨Nat.le_of_ble_eq_true rfl, Nat.le_of_ble_eq_true rfl⟩ ⟨Nat.le_of_ble_eq_true rfl, Nat.le_of_ble_eq_true rfl⟩ (show decode code 275 = .ok (.invokevirtual 33, 3) by decide +kernel) ?_
  rintro _ _ ⟨x, σ1, rfl, rfl, hq⟩ _
  refine am_r_aload_n (nx := 279) rfl rfl (show decode code 278 = .ok (.aload_n 2, 1) by decide +kernel) rfl ?_
  refine am_r_callV (d := 60) (mc := 0) (ms := 0) (as := []) (st := [am_i x]) hq mb_X11_fault mv_X11_fault (Or.inl ml_L_36) ob_91 (by omega) (r := (RX11, TX11, 63)) rfl rfl rfl rfl (Nat.le_of_ble_eq_true rfl) ⟨Nat.le_of_ble_eq_true rfl, Nat.le_of_ble_eq_true rfl⟩ ⟨Nat.le_of_ble_eq_true rfl, Nat.le_of_ble_eq_true rfl⟩ (show decode code 279 = .ok (.invokevirtual 36, 3) by decide +kernel) ?_
  rintro _ _ ⟨_, σ2, rfl, rfl, rfl, hJ2⟩ _
  exact am_r_icmp_same (tg := 887) (show decode code 282 = .ok (.if_icmp .eq 605, 3) by decide +kernel) (by decide) (next σ2 hJ2)
theorem l_c5 (h0 : 0 ≤ i) (h1 : i + 6 ≤ L) (hL : L ≤ 3072) (hJ : ab_J σ) (next : ∀ σ' : am_D, ab_J σ' → am_X (lw_F G L xs) mL (137, 119026) 887 (lw_ls i) [] (am_K0, σ')) : am_X (lw_F G L xs) mL (137, 119026) 287 (lw_ls i) [] (am_K0, σ) := by
  refine am_r_aload_n (nx := 288) rfl rfl (show decode code 287 = .ok (.aload_n 1, 1) by decide +kernel) rfl ?_
  refine am_r_aload_nS (nx := 289) rfl rfl (show decode code 288 = .ok (.aload_n 0, 1) by decide +kernel) rfl ?_
  refine am_r_iload_n (nx := 290) rfl rfl (show decode code 289 = .ok (.iload_n 3, 1) by decide +kernel) rfl ?_
  refine am_r_iconst (nx := 291) (show decode code 290 = .ok (.iconst 1, 1) by decide +kernel) rfl ?_
  refine am_r_iadd (nx := 292) (show decode code 291 = .ok (.iadd, 1) by decide +kernel) rfl ?_
  refine am_r_sld (nx := 293) (by omega) (by omega) hL (show decode code 292 = .ok (.iaload, 1) by decide +kernel) rfl ?_
  refine am_r_aload_nS (nx := 294) rfl rfl (show decode code 293 = .ok (.aload_n 0, 1) by decide +kernel) rfl ?_
  refine am_r_iload_n (nx := 295) rfl rfl (show decode code 294 = .ok (.iload_n 3, 1) by decide +kernel) rfl ?_
  refine am_r_iconst (nx := 296) (show decode code 295 = .ok (.iconst 2, 1) by decide +kernel) rfl ?_
  refine am_r_iadd (nx := 297) (show decode code 296 = .ok (.iadd, 1) by decide +kernel) rfl ?_
  refine am_r_sld (nx := 298) (by omega) (by omega) hL (show decode code 297 = .ok (.iaload, 1) by decide +kernel) rfl ?_
  refine am_r_callV (d := 60) (mc := 0) (ms := 0) (as := [am_i (lw_v xs (i + 1)), am_i (lw_v xs (i + 2))]) (st := []) (j_of (lw_r _ _) (lw_r _ _) hJ) mb_X10_of mv_X10_of (Or.inl ml_L_37) ob_0 (by omega) (r := (RX10, TX10, 14)) rfl rfl rfl rfl (Nat.le_of_ble_eq_true rfl) ⟨Nat.le_of_ble_eq_true rfl, Nat.le_of_ble_eq_true rfl⟩ ⟨Nat.le_of_ble_eq_true rfl, Nat.le_of_ble_eq_true rfl⟩ (show decode code 298 = .ok (.invokevirtual 37, 3) by decide +kernel) ?_
  rintro _ _ ⟨x, σ1, rfl, rfl, hq⟩ _
  refine am_r_aload_n (nx := 302) rfl rfl (show decode code 301 = .ok (.aload_n 2, 1) by decide +kernel) rfl ?_
  refine am_r_aload_nS (nx := 303) rfl rfl (show decode code 302 = .ok (.aload_n 0, 1) by decide +kernel) rfl ?_
  refine am_r_iload_n (nx := 304) rfl rfl (show decode code 303 = .ok (.iload_n 3, 1) by decide +kernel) rfl ?_
  refine am_r_iconst (nx := 305) (show decode code 304 = .ok (.iconst 1, 1) by decide +kernel) rfl ?_
  refine am_r_iadd (nx := 306) (show decode code 305 = .ok (.iadd, 1) by decide +kernel) rfl ?_
  refine am_r_sld (nx := 307) (by omega) (by omega) hL (show decode code 306 = .ok (.iaload, 1) by decide +kernel) rfl ?_
  refine am_r_aload_nS (nx := 308) rfl rfl (show decode code 307 = .ok (.aload_n 0, 1) by decide +kernel) rfl ?_
  refine am_r_iload_n (nx := 309) rfl rfl (show decode code 308 = .ok (.iload_n 3, 1) by decide +kernel) rfl ?_
  refine am_r_iconst (nx := 310) (show decode code 309 = .ok (.iconst 2, 1) by decide +kernel) rfl ?_
  refine am_r_iadd (nx := 311) (show decode code 310 = .ok (.iadd, 1) by decide +kernel) rfl ?_
  refine am_r_sld (nx := 312) (by omega) (by omega) hL (show decode code 311 = .ok (.iaload, 1) by decide +kernel) rfl ?_
  refine am_r_callV (d := 60) (mc := 0) (ms := 0) (as := [am_i (lw_v xs (i + 1)), am_i (lw_v xs (i + 2))]) (st := [am_i x]) hq mb_X11_of mv_X11_of (Or.inl ml_L_41) ob_91 (by omega) (r := (RX11, TX11, 63)) rfl rfl rfl rfl (Nat.le_of_ble_eq_true rfl) ⟨Nat.le_of_ble_eq_true rfl, Nat.le_of_ble_eq_true rfl⟩ ⟨Nat.le_of_ble_eq_true rfl, Nat.le_of_ble_eq_true rfl⟩ (show decode code 312 = .ok (.invokevirtual 41, 3) by decide +kernel) ?_
  rintro _ _ ⟨_, σ2, rfl, rfl, rfl, hJ2⟩ _
  exact am_r_icmp_same (tg := 887) (show decode code 315 = .ok (.if_icmp .eq 572, 3) by decide +kernel) (by decide) (next σ2 hJ2)
theorem l_c6 (h0 : 0 ≤ i) (h1 : i + 6 ≤ L) (hL : L ≤ 3072) (hJ : ab_J σ) (next : ∀ σ' : am_D, ab_J σ' → am_X (lw_F G L xs) mL (137, 119026) 887 (lw_ls i) [] (am_K0, σ')) : am_X (lw_F G L xs) mL (137, 119026) 320 (lw_ls i) [] (am_K0, σ) := by
  refine am_r_aload_n (nx := 321) rfl rfl (show decode code 320 = .ok (.aload_n 1, 1) by decide +kernel) rfl ?_
  refine am_r_aload_nS (nx := 322) rfl rfl (show decode code 321 = .ok (.aload_n 0, 1) by decide +kernel) rfl ?_
  refine am_r_iload_n (nx := 323) rfl rfl (show decode code 322 = .ok (.iload_n 3, 1) by decide +kernel) rfl ?_
  refine am_r_iconst (nx := 324) (show decode code 323 = .ok (.iconst 1, 1) by decide +kernel) rfl ?_
  refine am_r_iadd (nx := 325) (show decode code 324 = .ok (.iadd, 1) by decide +kernel) rfl ?_
  refine am_r_sld (nx := 326) (by omega) (by omega) hL (show decode code 325 = .ok (.iaload, 1) by decide +kernel) rfl ?_
  refine am_r_callV (d := 60) (mc := 0) (ms := 0) (as := [am_i (lw_v xs (i + 1))]) (st := []) (j_count (lw_r _ _) hJ) mb_X10_count mv_X10_count (Or.inl ml_L_42) ob_0 (by omega) (r := (RX10, TX10, 14)) rfl rfl rfl rfl (Nat.le_of_ble_eq_true rfl) ⟨Nat.le_of_ble_eq_true rfl, Nat.le_of_ble_eq_true rfl⟩ ⟨Nat.le_of_ble_eq_true rfl, Nat.le_of_ble_eq_true rfl⟩ (show decode code 326 = .ok (.invokevirtual 42, 3) by decide +kernel) ?_
  rintro _ _ ⟨x, σ1, rfl, rfl, hq⟩ _
  refine am_r_aload_n (nx := 330) rfl rfl (show decode code 329 = .ok (.aload_n 2, 1) by decide +kernel) rfl ?_
  refine am_r_aload_nS (nx := 331) rfl rfl (show decode code 330 = .ok (.aload_n 0, 1) by decide +kernel) rfl ?_
  refine am_r_iload_n (nx := 332) rfl rfl (show decode code 331 = .ok (.iload_n 3, 1) by decide +kernel) rfl ?_
  refine am_r_iconst (nx := 333) (show decode code 332 = .ok (.iconst 1, 1) by decide +kernel) rfl ?_
  refine am_r_iadd (nx := 334) (show decode code 333 = .ok (.iadd, 1) by decide +kernel) rfl ?_
  refine am_r_sld (nx := 335) (by omega) (by omega) hL (show decode code 334 = .ok (.iaload, 1) by decide +kernel) rfl ?_
  refine am_r_callV (d := 60) (mc := 0) (ms := 0) (as := [am_i (lw_v xs (i + 1))]) (st := [am_i x]) hq mb_X11_count mv_X11_count (Or.inl ml_L_45) ob_91 (by omega) (r := (RX11, TX11, 63)) rfl rfl rfl rfl (Nat.le_of_ble_eq_true rfl) ⟨Nat.le_of_ble_eq_true rfl, Nat.le_of_ble_eq_true rfl⟩ ⟨Nat.le_of_ble_eq_true rfl, Nat.le_of_ble_eq_true rfl⟩ (show decode code 335 = .ok (.invokevirtual 45, 3) by decide +kernel) ?_
  rintro _ _ ⟨_, σ2, rfl, rfl, rfl, hJ2⟩ _
  exact am_r_icmp_same (tg := 887) (show decode code 338 = .ok (.if_icmp .eq 549, 3) by decide +kernel) (by decide) (next σ2 hJ2)
theorem l_c7 (h0 : 0 ≤ i) (h1 : i + 6 ≤ L) (hL : L ≤ 3072) (hJ : ab_J σ) (next : ∀ σ' : am_D, ab_J σ' → am_X (lw_F G L xs) mL (137, 119026) 887 (lw_ls i) [] (am_K0, σ')) : am_X (lw_F G L xs) mL (137, 119026) 343 (lw_ls i) [] (am_K0, σ) := by
  refine am_r_aload_n (nx := 344) rfl rfl (show decode code 343 = .ok (.aload_n 1, 1) by decide +kernel) rfl ?_
  refine am_r_aload_nS (nx := 345) rfl rfl (show decode code 344 = .ok (.aload_n 0, 1) by decide +kernel) rfl ?_
  refine am_r_iload_n (nx := 346) rfl rfl (show decode code 345 = .ok (.iload_n 3, 1) by decide +kernel) rfl ?_
  refine am_r_iconst (nx := 347) (show decode code 346 = .ok (.iconst 1, 1) by decide +kernel) rfl ?_
  refine am_r_iadd (nx := 348) (show decode code 347 = .ok (.iadd, 1) by decide +kernel) rfl ?_
  refine am_r_sld (nx := 349) (by omega) (by omega) hL (show decode code 348 = .ok (.iaload, 1) by decide +kernel) rfl ?_
  refine am_r_aload_nS (nx := 350) rfl rfl (show decode code 349 = .ok (.aload_n 0, 1) by decide +kernel) rfl ?_
  refine am_r_iload_n (nx := 351) rfl rfl (show decode code 350 = .ok (.iload_n 3, 1) by decide +kernel) rfl ?_
  refine am_r_iconst (nx := 352) (show decode code 351 = .ok (.iconst 2, 1) by decide +kernel) rfl ?_
  refine am_r_iadd (nx := 353) (show decode code 352 = .ok (.iadd, 1) by decide +kernel) rfl ?_
  refine am_r_sld (nx := 354) (by omega) (by omega) hL (show decode code 353 = .ok (.iaload, 1) by decide +kernel) rfl ?_
  refine am_r_b01 (p1 := 357) (p2 := 361) (p3 := 358) (p4 := 362) (lw_r _ _) (show decode code 354 = .ok (.ifCond .eq 7, 3) by decide +kernel) (by decide) rfl (show decode code 357 = .ok (.iconst 1, 1) by decide +kernel) rfl (show decode code 358 = .ok (.goto 4, 3) by decide +kernel) (by decide) (show decode code 361 = .ok (.iconst 0, 1) by decide +kernel) rfl ?_
  refine am_r_callV (d := 60) (mc := 0) (ms := 0) (as := [am_i (lw_v xs (i + 1)), am_i (sb_i (decide (lw_v xs (i + 2) ≠ 0)))]) (st := []) (j_event (lw_r _ _) hJ) mb_X10_event mv_X10_event (Or.inl ml_L_46) ob_0 (by omega) (r := (RX10, TX10, 14)) rfl rfl rfl rfl (Nat.le_of_ble_eq_true rfl) ⟨Nat.le_of_ble_eq_true rfl, Nat.le_of_ble_eq_true rfl⟩ ⟨Nat.le_of_ble_eq_true rfl, Nat.le_of_ble_eq_true rfl⟩ (show decode code 362 = .ok (.invokevirtual 46, 3) by decide +kernel) ?_
  rintro _ _ ⟨x, σ1, rfl, rfl, hq⟩ _
  refine am_r_aload_n (nx := 366) rfl rfl (show decode code 365 = .ok (.aload_n 2, 1) by decide +kernel) rfl ?_
  refine am_r_aload_nS (nx := 367) rfl rfl (show decode code 366 = .ok (.aload_n 0, 1) by decide +kernel) rfl ?_
  refine am_r_iload_n (nx := 368) rfl rfl (show decode code 367 = .ok (.iload_n 3, 1) by decide +kernel) rfl ?_
  refine am_r_iconst (nx := 369) (show decode code 368 = .ok (.iconst 1, 1) by decide +kernel) rfl ?_
  refine am_r_iadd (nx := 370) (show decode code 369 = .ok (.iadd, 1) by decide +kernel) rfl ?_
  refine am_r_sld (nx := 371) (by omega) (by omega) hL (show decode code 370 = .ok (.iaload, 1) by decide +kernel) rfl ?_
  refine am_r_aload_nS (nx := 372) rfl rfl (show decode code 371 = .ok (.aload_n 0, 1) by decide +kernel) rfl ?_
  refine am_r_iload_n (nx := 373) rfl rfl (show decode code 372 = .ok (.iload_n 3, 1) by decide +kernel) rfl ?_
  refine am_r_iconst (nx := 374) (show decode code 373 = .ok (.iconst 2, 1) by decide +kernel) rfl ?_
  refine am_r_iadd (nx := 375) (show decode code 374 = .ok (.iadd, 1) by decide +kernel) rfl ?_
  refine am_r_sld (nx := 376) (by omega) (by omega) hL (show decode code 375 = .ok (.iaload, 1) by decide +kernel) rfl ?_
  refine am_r_b01 (p1 := 379) (p2 := 383) (p3 := 380) (p4 := 384) (lw_r _ _) (show decode code 376 = .ok (.ifCond .eq 7, 3) by decide +kernel) (by decide) rfl (show decode code 379 = .ok (.iconst 1, 1) by decide +kernel) rfl (show decode code 380 = .ok (.goto 4, 3) by decide +kernel) (by decide) (show decode code 383 = .ok (.iconst 0, 1) by decide +kernel) rfl ?_
  refine am_r_callV (d := 60) (mc := 0) (ms := 0) (as := [am_i (lw_v xs (i + 1)), am_i (sb_i (decide (lw_v xs (i + 2) ≠ 0)))]) (st := [am_i x]) hq mb_X11_event mv_X11_event (Or.inl ml_L_50) ob_91 (by omega) (r := (RX11, TX11, 63)) rfl rfl rfl rfl (Nat.le_of_ble_eq_true rfl) ⟨Nat.le_of_ble_eq_true rfl, Nat.le_of_ble_eq_true rfl⟩ ⟨Nat.le_of_ble_eq_true rfl, Nat.le_of_ble_eq_true rfl⟩ (show decode code 384 = .ok (.invokevirtual 50, 3) by decide +kernel) ?_
  rintro _ _ ⟨_, σ2, rfl, rfl, rfl, hJ2⟩ _
  exact am_r_icmp_same (tg := 887) (show decode code 387 = .ok (.if_icmp .eq 500, 3) by decide +kernel) (by decide) (next σ2 hJ2)
theorem l_c8 (h0 : 0 ≤ i) (h1 : i + 6 ≤ L) (hL : L ≤ 3072) (hJ : ab_J σ) (next : ∀ σ' : am_D, ab_J σ' → am_X (lw_F G L xs) mL (137, 119026) 887 (lw_ls i) [] (am_K0, σ')) : am_X (lw_F G L xs) mL (137, 119026) 392 (lw_ls i) [] (am_K0, σ) := by
  refine am_r_aload_n (nx := 393) rfl rfl (show decode code 392 = .ok (.aload_n 1, 1) by decide +kernel) rfl ?_
  refine am_r_callV (d := 60) (mc := 0) (ms := 0) (as := []) (st := []) (j_take hJ) mb_X10_take mv_X10_take (Or.inl ml_L_51) ob_0 (by omega) (r := (RX10, TX10, 14)) rfl rfl rfl rfl (Nat.le_of_ble_eq_true rfl) ⟨Nat.le_of_ble_eq_true rfl, Nat.le_of_ble_eq_true rfl⟩ ⟨Nat.le_of_ble_eq_true rfl, Nat.le_of_ble_eq_true rfl⟩ (show decode code 393 = .ok (.invokevirtual 51, 3) by decide +kernel) ?_
  rintro _ _ ⟨x, σ1, rfl, rfl, hq⟩ _
  refine am_r_aload_n (nx := 397) rfl rfl (show decode code 396 = .ok (.aload_n 2, 1) by decide +kernel) rfl ?_
  refine am_r_callV (d := 60) (mc := 0) (ms := 0) (as := []) (st := [am_i x]) hq mb_X11_take mv_X11_take (Or.inl ml_L_54) ob_91 (by omega) (r := (RX11, TX11, 63)) rfl rfl rfl rfl (Nat.le_of_ble_eq_true rfl) ⟨Nat.le_of_ble_eq_true rfl, Nat.le_of_ble_eq_true rfl⟩ ⟨Nat.le_of_ble_eq_true rfl, Nat.le_of_ble_eq_true rfl⟩ (show decode code 397 = .ok (.invokevirtual 54, 3) by decide +kernel) ?_
  rintro _ _ ⟨_, σ2, rfl, rfl, rfl, hJ2⟩ _
  exact am_r_icmp_same (tg := 887) (show decode code 400 = .ok (.if_icmp .eq 487, 3) by decide +kernel) (by decide) (next σ2 hJ2)
end
