/-! makers (by wip/tools/gen_sf.py): the model -/
section SF
variable {xs : Nat → Int32} {L : Nat} {P : am_AH} {a : Nat}
theorem r44_0 : am_at 44 0 = some (.aload_n 0, 1, [0]) := by decide +kernel
theorem r44_1 : am_at 44 1 = some (.invokespecial 1, 3, [1003, 0, 1214]) := by decide +kernel
theorem r44_4 : am_at 44 4 = some (.aload_n 0, 1, [0]) := by decide +kernel
theorem r44_5 : am_at 44 5 = some (.sipush (1320), 3, []) := by decide +kernel
theorem r44_8 : am_at 44 8 = some (.newarray .int, 2, [0]) := by decide +kernel
theorem r44_10 : am_at 44 10 = some (.putfield 7, 3, [8, 1, 3, 1216]) := by decide +kernel
theorem r44_13 : am_at 44 13 = some (.aload_n 0, 1, [0]) := by decide +kernel
theorem r44_14 : am_at 44 14 = some (.bipush (60), 2, []) := by decide +kernel
theorem r44_16 : am_at 44 16 = some (.newarray .int, 2, [0]) := by decide +kernel
theorem r44_18 : am_at 44 18 = some (.putfield 13, 3, [8, 4, 3, 1219]) := by decide +kernel
theorem r44_21 : am_at 44 21 = some (.aload_n 0, 1, [0]) := by decide +kernel
theorem r44_22 : am_at 44 22 = some (.bipush (28), 2, []) := by decide +kernel
theorem r44_24 : am_at 44 24 = some (.newarray .int, 2, [0]) := by decide +kernel
theorem r44_26 : am_at 44 26 = some (.putfield 16, 3, [8, 9, 3, 1224]) := by decide +kernel
theorem r44_29 : am_at 44 29 = some (.aload_n 0, 1, [0]) := by decide +kernel
theorem r44_30 : am_at 44 30 = some (.bipush (28), 2, []) := by decide +kernel
theorem r44_32 : am_at 44 32 = some (.newarray .int, 2, [0]) := by decide +kernel
theorem r44_34 : am_at 44 34 = some (.putfield 19, 3, [8, 10, 3, 1225]) := by decide +kernel
theorem r44_37 : am_at 44 37 = some (.aload_n 0, 1, [0]) := by decide +kernel
theorem r44_38 : am_at 44 38 = some (.bipush (64), 2, []) := by decide +kernel
theorem r44_40 : am_at 44 40 = some (.newarray .int, 2, [0]) := by decide +kernel
theorem r44_42 : am_at 44 42 = some (.putfield 22, 3, [8, 11, 3, 1226]) := by decide +kernel
theorem r44_45 : am_at 44 45 = some (.aload_n 0, 1, [0]) := by decide +kernel
theorem r44_46 : am_at 44 46 = some (.iconst (3), 1, []) := by decide +kernel
theorem r44_47 : am_at 44 47 = some (.newarray .int, 2, [0]) := by decide +kernel
theorem r44_49 : am_at 44 49 = some (.putfield 25, 3, [8, 12, 3, 1227]) := by decide +kernel
theorem r44_52 : am_at 44 52 = some (.aload_n 0, 1, [0]) := by decide +kernel
theorem r44_53 : am_at 44 53 = some (.bipush (7), 2, []) := by decide +kernel
theorem r44_55 : am_at 44 55 = some (.newarray .int, 2, [0]) := by decide +kernel
theorem r44_57 : am_at 44 57 = some (.putfield 28, 3, [8, 13, 3, 1228]) := by decide +kernel
theorem r44_60 : am_at 44 60 = some (.aload_n 0, 1, [0]) := by decide +kernel
theorem r44_61 : am_at 44 61 = some (.sipush (128), 3, []) := by decide +kernel
theorem r44_64 : am_at 44 64 = some (.newarray .int, 2, [0]) := by decide +kernel
theorem r44_66 : am_at 44 66 = some (.putfield 31, 3, [8, 14, 3, 1229]) := by decide +kernel
theorem r44_69 : am_at 44 69 = some (.aload_n 0, 1, [0]) := by decide +kernel
theorem r44_70 : am_at 44 70 = some (.bipush (28), 2, []) := by decide +kernel
theorem r44_72 : am_at 44 72 = some (.newarray .int, 2, [0]) := by decide +kernel
theorem r44_74 : am_at 44 74 = some (.putfield 34, 3, [8, 15, 3, 1230]) := by decide +kernel
theorem r44_77 : am_at 44 77 = some (.aload_n 0, 1, [0]) := by decide +kernel
theorem r44_78 : am_at 44 78 = some (.bipush (64), 2, []) := by decide +kernel
theorem r44_80 : am_at 44 80 = some (.newarray .int, 2, [0]) := by decide +kernel
theorem r44_82 : am_at 44 82 = some (.putfield 37, 3, [8, 16, 3, 1231]) := by decide +kernel
theorem r44_85 : am_at 44 85 = some (.aload_n 0, 1, [0]) := by decide +kernel
theorem r44_86 : am_at 44 86 = some (.bipush (64), 2, []) := by decide +kernel
theorem r44_88 : am_at 44 88 = some (.newarray .int, 2, [0]) := by decide +kernel
theorem r44_90 : am_at 44 90 = some (.putfield 40, 3, [8, 17, 3, 1232]) := by decide +kernel
theorem r44_93 : am_at 44 93 = some (.aload_n 0, 1, [0]) := by decide +kernel
theorem r44_94 : am_at 44 94 = some (.bipush (64), 2, []) := by decide +kernel
theorem r44_96 : am_at 44 96 = some (.newarray .int, 2, [0]) := by decide +kernel
theorem r44_98 : am_at 44 98 = some (.putfield 43, 3, [8, 18, 3, 1233]) := by decide +kernel
theorem r44_101 : am_at 44 101 = some (.aload_n 0, 1, [0]) := by decide +kernel
theorem r44_102 : am_at 44 102 = some (.bipush (64), 2, []) := by decide +kernel
theorem r44_104 : am_at 44 104 = some (.newarray .int, 2, [0]) := by decide +kernel
theorem r44_106 : am_at 44 106 = some (.putfield 46, 3, [8, 19, 3, 1234]) := by decide +kernel
theorem r44_109 : am_at 44 109 = some (.aload_n 0, 1, [0]) := by decide +kernel
theorem r44_110 : am_at 44 110 = some (.bipush (64), 2, []) := by decide +kernel
theorem r44_112 : am_at 44 112 = some (.newarray .int, 2, [0]) := by decide +kernel
theorem r44_114 : am_at 44 114 = some (.putfield 49, 3, [8, 20, 3, 1235]) := by decide +kernel
theorem r44_117 : am_at 44 117 = some (.aload_n 0, 1, [0]) := by decide +kernel
theorem r44_118 : am_at 44 118 = some (.bipush (64), 2, []) := by decide +kernel
theorem r44_120 : am_at 44 120 = some (.newarray .int, 2, [0]) := by decide +kernel
theorem r44_122 : am_at 44 122 = some (.putfield 52, 3, [8, 21, 3, 1236]) := by decide +kernel
theorem r44_125 : am_at 44 125 = some (.aload_n 0, 1, [0]) := by decide +kernel
theorem r44_126 : am_at 44 126 = some (.bipush (64), 2, []) := by decide +kernel
theorem r44_128 : am_at 44 128 = some (.newarray .int, 2, [0]) := by decide +kernel
theorem r44_130 : am_at 44 130 = some (.putfield 55, 3, [8, 22, 3, 1237]) := by decide +kernel
theorem r44_133 : am_at 44 133 = some (.aload_n 0, 1, [0]) := by decide +kernel
theorem r44_134 : am_at 44 134 = some (.bipush (64), 2, []) := by decide +kernel
theorem r44_136 : am_at 44 136 = some (.newarray .int, 2, [0]) := by decide +kernel
theorem r44_138 : am_at 44 138 = some (.putfield 58, 3, [8, 23, 3, 1238]) := by decide +kernel
theorem r44_141 : am_at 44 141 = some (.aload_n 0, 1, [0]) := by decide +kernel
theorem r44_142 : am_at 44 142 = some (.getfield 7, 3, [8, 1, 3, 1216]) := by decide +kernel
theorem r44_145 : am_at 44 145 = some (.iconst (2), 1, []) := by decide +kernel
theorem r44_146 : am_at 44 146 = some (.iconst (-1), 1, []) := by decide +kernel
theorem r44_147 : am_at 44 147 = some (.iastore, 1, []) := by decide +kernel
theorem r44_148 : am_at 44 148 = some (.aload_n 0, 1, [0]) := by decide +kernel
theorem r44_149 : am_at 44 149 = some (.getfield 7, 3, [8, 1, 3, 1216]) := by decide +kernel
theorem r44_152 : am_at 44 152 = some (.iconst (3), 1, []) := by decide +kernel
theorem r44_153 : am_at 44 153 = some (.bipush (20), 2, []) := by decide +kernel
theorem r44_155 : am_at 44 155 = some (.iastore, 1, []) := by decide +kernel
theorem r44_156 : am_at 44 156 = some (.aload_n 0, 1, [0]) := by decide +kernel
theorem r44_157 : am_at 44 157 = some (.getfield 7, 3, [8, 1, 3, 1216]) := by decide +kernel
theorem r44_160 : am_at 44 160 = some (.iconst (5), 1, []) := by decide +kernel
theorem r44_161 : am_at 44 161 = some (.iconst (-1), 1, []) := by decide +kernel
theorem r44_162 : am_at 44 162 = some (.iastore, 1, []) := by decide +kernel
theorem r44_163 : am_at 44 163 = some (.iconst (0), 1, []) := by decide +kernel
theorem r44_164 : am_at 44 164 = some (.istore_n 1, 1, [1]) := by decide +kernel
theorem r44_165 : am_at 44 165 = some (.iconst (0), 1, []) := by decide +kernel
theorem r44_166 : am_at 44 166 = some (.istore_n 2, 1, [2]) := by decide +kernel
theorem r44_167 : am_at 44 167 = some (.iload_n 2, 1, [2]) := by decide +kernel
theorem r44_168 : am_at 44 168 = some (.bipush (7), 2, []) := by decide +kernel
theorem r44_170 : am_at 44 170 = some (.if_icmp .ge (50), 3, [220]) := by decide +kernel
theorem r44_173 : am_at 44 173 = some (.iload_n 2, 1, [2]) := by decide +kernel
theorem r44_174 : am_at 44 174 = some (.istore_n 3, 1, [3]) := by decide +kernel
theorem r44_175 : am_at 44 175 = some (.iload_n 3, 1, [3]) := by decide +kernel
theorem r44_176 : am_at 44 176 = some (.bipush (7), 2, []) := by decide +kernel
theorem r44_178 : am_at 44 178 = some (.if_icmp .ge (36), 3, [214]) := by decide +kernel
theorem r44_181 : am_at 44 181 = some (.aload_n 0, 1, [0]) := by decide +kernel
theorem r44_182 : am_at 44 182 = some (.getfield 16, 3, [8, 9, 3, 1224]) := by decide +kernel
theorem r44_185 : am_at 44 185 = some (.iload_n 1, 1, [1]) := by decide +kernel
theorem r44_186 : am_at 44 186 = some (.iload_n 2, 1, [2]) := by decide +kernel
theorem r44_187 : am_at 44 187 = some (.iastore, 1, []) := by decide +kernel
theorem r44_188 : am_at 44 188 = some (.aload_n 0, 1, [0]) := by decide +kernel
theorem r44_189 : am_at 44 189 = some (.getfield 19, 3, [8, 10, 3, 1225]) := by decide +kernel
theorem r44_192 : am_at 44 192 = some (.iload_n 1, 1, [1]) := by decide +kernel
theorem r44_193 : am_at 44 193 = some (.iload_n 3, 1, [3]) := by decide +kernel
theorem r44_194 : am_at 44 194 = some (.iastore, 1, []) := by decide +kernel
theorem r44_195 : am_at 44 195 = some (.aload_n 0, 1, [0]) := by decide +kernel
theorem r44_196 : am_at 44 196 = some (.getfield 7, 3, [8, 1, 3, 1216]) := by decide +kernel
theorem r44_199 : am_at 44 199 = some (.bipush (25), 2, []) := by decide +kernel
theorem r44_201 : am_at 44 201 = some (.iload_n 1, 1, [1]) := by decide +kernel
theorem r44_202 : am_at 44 202 = some (.iadd, 1, []) := by decide +kernel
theorem r44_203 : am_at 44 203 = some (.iconst (5), 1, []) := by decide +kernel
theorem r44_204 : am_at 44 204 = some (.iastore, 1, []) := by decide +kernel
theorem r44_205 : am_at 44 205 = some (.iinc 1 (1), 3, [1]) := by decide +kernel
theorem r44_208 : am_at 44 208 = some (.iinc 3 (1), 3, [3]) := by decide +kernel
theorem r44_211 : am_at 44 211 = some (.goto (-36), 3, [175]) := by decide +kernel
theorem r44_214 : am_at 44 214 = some (.iinc 2 (1), 3, [2]) := by decide +kernel
theorem r44_217 : am_at 44 217 = some (.goto (-50), 3, [167]) := by decide +kernel
theorem r44_220 : am_at 44 220 = some (.return_, 1, []) := by decide +kernel
theorem rt44 : am_rtt 44 = some none := by decide +kernel
set_option maxRecDepth 100000 in
theorem pg44 : am_pg[44]? = some am_m44 := rfl
def z_m7 (k : Nat) : Nat → Int32 := fun j => if 25 ≤ j ∧ j < 25 + k then 5 else if j = 2 then -1 else if j = 3 then 20 else if j = 5 then -1 else 0
def z_lo (k : Nat) : Nat → Int32 := fun j => if j < k then Int32.ofNat (q_lo j) else 0
def z_hi (k : Nat) : Nat → Int32 := fun j => if j < k then Int32.ofNat (q_hi j) else 0
theorem z_m70 : (upd (upd (upd (fun _ => 0) 2 (-1)) 3 20) 5 (-1)) = z_m7 0 := by
  funext j
  unfold upd z_m7
  rw [if_neg (c := 25 ≤ j ∧ j < 25 + 0) (by omega)]
  by_cases c5 : j = 5
  · rw [if_pos c5, if_neg (by omega), if_neg (by omega), if_pos c5]
  · rw [if_neg c5, if_neg c5]
    by_cases c3 : j = 3
    · rw [if_pos c3, if_neg (by omega), if_pos c3]
    · rw [if_neg c3, if_neg c3]
theorem z_lo0 : (fun _ => 0) = z_lo 0 := by
  funext j
  unfold z_lo
  rw [if_neg (by omega)]
theorem z_loS (k : Nat) : upd (z_lo k) k (Int32.ofNat (q_lo k)) = z_lo (k + 1) := by
  funext j
  unfold upd z_lo
  by_cases c : j = k
  · rw [if_pos c, if_pos (by omega), c]
  · rw [if_neg c]
    by_cases d : j < k
    · rw [if_pos d, if_pos (by omega)]
    · rw [if_neg d, if_neg (by omega)]
theorem z_hi0 : (fun _ => 0) = z_hi 0 := by
  funext j
  unfold z_hi
  rw [if_neg (by omega)]
theorem z_hiS (k : Nat) : upd (z_hi k) k (Int32.ofNat (q_hi k)) = z_hi (k + 1) := by
  funext j
  unfold upd z_hi
  by_cases c : j = k
  · rw [if_pos c, if_pos (by omega), c]
  · rw [if_neg c]
    by_cases d : j < k
    · rw [if_pos d, if_pos (by omega)]
    · rw [if_neg d, if_neg (by omega)]
theorem z_m7S (k : Nat) : upd (z_m7 k) (25 + k) 5 = z_m7 (k + 1) := by
  funext j
  unfold upd z_m7
  by_cases c : j = 25 + k
  · rw [if_pos c, if_pos (by omega)]
  · rw [if_neg c]
    by_cases d : 25 ≤ j ∧ j < 25 + k
    · rw [if_pos d, if_pos (by omega)]
    · rw [if_neg d, if_neg (c := 25 ≤ j ∧ j < 25 + (k + 1)) (by omega)]
theorem z_lh : ∀ k, k < 28 → q_lo k < 7 ∧ q_hi k < 7 ∧ (q_hi k + 1 < 7 → k + 1 < 28 ∧ q_lo (k + 1) = q_lo k ∧ q_hi (k + 1) = q_hi k + 1) ∧ (q_hi k + 1 = 7 → (q_lo k + 1 < 7 → k + 1 < 28 ∧ q_lo (k + 1) = q_lo k + 1 ∧ q_hi (k + 1) = q_lo k + 1) ∧ (q_lo k + 1 = 7 → k + 1 = 28)) := by decide +kernel
def z_ML (a k : Nat) : am_AH := [c_O 8 [.int 0, .ref (a + 1), .int 0, .int 0, .ref (a + 2), .int 0, .int 0, .int 0, .int 0, .ref (a + 3), .ref (a + 4), .ref (a + 5), .ref (a + 6), .ref (a + 7), .ref (a + 8), .ref (a + 9), .ref (a + 10), .ref (a + 11), .ref (a + 12), .ref (a + 13), .ref (a + 14), .ref (a + 15), .ref (a + 16), .ref (a + 17), .int 0, .long 0], c_I 1320 (z_m7 k), c_I 60 (fun _ => 0), c_I 28 (z_lo k), c_I 28 (z_hi k), c_I 64 (fun _ => 0), c_I 3 (fun _ => 0), c_I 7 (fun _ => 0), c_I 128 (fun _ => 0), c_I 28 (fun _ => 0), c_I 64 (fun _ => 0), c_I 64 (fun _ => 0), c_I 64 (fun _ => 0), c_I 64 (fun _ => 0), c_I 64 (fun _ => 0), c_I 64 (fun _ => 0), c_I 64 (fun _ => 0), c_I 64 (fun _ => 0)]
def z_Mo (a : Nat) : am_AH := z_ML a 28
theorem k44_S {d mc ms c s : Nat} {Q : am_O → am_AH → Prop} (hP : P.length = a) (hQ : Q (.inl none) (P ++ z_Mo a)) (k : Nat) (hk : k < 28) (IH : ∀ k', k' = k + 1 → k' < 28 → am_X xs L 44 d mc ms 175 [.ref a, .int (Int32.ofNat k'), .int (Int32.ofNat (q_lo k')), .int (Int32.ofNat (q_hi k'))] [] (P ++ z_ML a k') c s Q) : am_X xs L 44 d mc ms 175 [.ref a, .int (Int32.ofNat k), .int (Int32.ofNat (q_lo k)), .int (Int32.ofNat (q_hi k))] [] (P ++ z_ML a k) c s Q := by
  obtain ⟨h1, h2, h3, h4⟩ := z_lh k hk
  refine x_ld (v := .int (Int32.ofNat (q_hi k))) r44_175 rfl rfl rfl ?_
  refine x_bi (v := 7) r44_176 rfl rfl ?_
  refine x_icgeF r44_178 (q_nle (a := q_hi k) (b := 7) (by omega) h2) rfl ?_
  refine x_ld (v := .ref a) r44_181 rfl rfl rfl ?_
  refine z_gf (v := .ref (a + 3)) r44_182 (z_at hP 0 rfl) rfl rfl ?_
  refine x_ld (v := .int (Int32.ofNat k)) r44_185 rfl rfl rfl ?_
  refine x_ld (v := .int (Int32.ofNat (q_lo k))) r44_186 rfl rfl rfl ?_
  refine z_ias (e := k) (h' := P ++ [c_O 8 [.int 0, .ref (a + 1), .int 0, .int 0, .ref (a + 2), .int 0, .int 0, .int 0, .int 0, .ref (a + 3), .ref (a + 4), .ref (a + 5), .ref (a + 6), .ref (a + 7), .ref (a + 8), .ref (a + 9), .ref (a + 10), .ref (a + 11), .ref (a + 12), .ref (a + 13), .ref (a + 14), .ref (a + 15), .ref (a + 16), .ref (a + 17), .int 0, .long 0], c_I 1320 (z_m7 k), c_I 60 (fun _ => 0), c_I 28 (z_lo (k + 1)), c_I 28 (z_hi k), c_I 64 (fun _ => 0), c_I 3 (fun _ => 0), c_I 7 (fun _ => 0), c_I 128 (fun _ => 0), c_I 28 (fun _ => 0), c_I 64 (fun _ => 0), c_I 64 (fun _ => 0), c_I 64 (fun _ => 0), c_I 64 (fun _ => 0), c_I 64 (fun _ => 0), c_I 64 (fun _ => 0), c_I 64 (fun _ => 0), c_I 64 (fun _ => 0)]) r44_187 (z_at hP 3 rfl) (Nat.le_of_ble_eq_true rfl) (q_in (n := 28) (by omega) (by omega)) (q_tn (by omega)) (z_set hP 3 _ (by rw [z_loS]; rfl)) rfl ?_
  refine x_ld (v := .ref a) r44_188 rfl rfl rfl ?_
  refine z_gf (v := .ref (a + 4)) r44_189 (z_at hP 0 rfl) rfl rfl ?_
  refine x_ld (v := .int (Int32.ofNat k)) r44_192 rfl rfl rfl ?_
  refine x_ld (v := .int (Int32.ofNat (q_hi k))) r44_193 rfl rfl rfl ?_
  refine z_ias (e := k) (h' := P ++ [c_O 8 [.int 0, .ref (a + 1), .int 0, .int 0, .ref (a + 2), .int 0, .int 0, .int 0, .int 0, .ref (a + 3), .ref (a + 4), .ref (a + 5), .ref (a + 6), .ref (a + 7), .ref (a + 8), .ref (a + 9), .ref (a + 10), .ref (a + 11), .ref (a + 12), .ref (a + 13), .ref (a + 14), .ref (a + 15), .ref (a + 16), .ref (a + 17), .int 0, .long 0], c_I 1320 (z_m7 k), c_I 60 (fun _ => 0), c_I 28 (z_lo (k + 1)), c_I 28 (z_hi (k + 1)), c_I 64 (fun _ => 0), c_I 3 (fun _ => 0), c_I 7 (fun _ => 0), c_I 128 (fun _ => 0), c_I 28 (fun _ => 0), c_I 64 (fun _ => 0), c_I 64 (fun _ => 0), c_I 64 (fun _ => 0), c_I 64 (fun _ => 0), c_I 64 (fun _ => 0), c_I 64 (fun _ => 0), c_I 64 (fun _ => 0), c_I 64 (fun _ => 0)]) r44_194 (z_at hP 4 rfl) (Nat.le_of_ble_eq_true rfl) (q_in (n := 28) (by omega) (by omega)) (q_tn (by omega)) (z_set hP 4 _ (by rw [z_hiS]; rfl)) rfl ?_
  refine x_ld (v := .ref a) r44_195 rfl rfl rfl ?_
  refine z_gf (v := .ref (a + 1)) r44_196 (z_at hP 0 rfl) rfl rfl ?_
  refine x_bi (v := 25) r44_199 rfl rfl ?_
  refine x_ld (v := .int (Int32.ofNat k)) r44_201 rfl rfl rfl ?_
  refine x_ar r44_202 rfl trivial rfl ?_
  refine am_topI (v := Int32.ofNat (25 + k)) (q_add 25 k).symm ?_
  refine x_ic (v := 5) r44_203 rfl rfl ?_
  refine z_ias (e := 25 + k) (h' := P ++ z_ML a (k + 1)) r44_204 (z_at hP 1 rfl) (Nat.le_of_ble_eq_true rfl) (q_in (n := 1320) (by omega) (by omega)) (q_tn (by omega)) (z_set hP 1 _ (by rw [z_m7S]; rfl)) rfl ?_
  refine x_sto (lc' := [.ref a, .int (Int32.ofNat (k + 1)), .int (Int32.ofNat (q_lo k)), .int (Int32.ofNat (q_hi k))]) (st' := []) r44_205 rfl rfl (by rw [← q_s1 k]; rfl) rfl ?_
  refine x_sto (lc' := [.ref a, .int (Int32.ofNat (k + 1)), .int (Int32.ofNat (q_lo k)), .int (Int32.ofNat (q_hi k + 1))]) (st' := []) r44_208 rfl rfl (by rw [← q_s1 (q_hi k)]; rfl) rfl ?_
  refine x_goto r44_211 ?_
  by_cases c7 : q_hi k + 1 < 7
  · obtain ⟨g1, g2, g3⟩ := h3 c7
    have := IH (k + 1) rfl g1
    rw [g2, g3] at this
    exact this
  · have e7 : q_hi k + 1 = 7 := by omega
    obtain ⟨g1, g2⟩ := h4 e7
    refine x_ld (v := .int (Int32.ofNat (q_hi k + 1))) r44_175 rfl rfl rfl ?_
    refine x_bi (v := 7) r44_176 rfl rfl ?_
    refine x_icgeT r44_178 (q_yle (a := 7) (b := q_hi k + 1) (by omega) (by omega)) ?_
    refine x_sto (lc' := [.ref a, .int (Int32.ofNat (k + 1)), .int (Int32.ofNat (q_lo k + 1)), .int (Int32.ofNat (q_hi k + 1))]) (st' := []) r44_214 rfl rfl (by rw [← q_s1 (q_lo k)]; rfl) rfl ?_
    refine x_goto r44_217 ?_
    refine x_ld (v := .int (Int32.ofNat (q_lo k + 1))) r44_167 rfl rfl rfl ?_
    refine x_bi (v := 7) r44_168 rfl rfl ?_
    by_cases d7 : q_lo k + 1 < 7
    · refine x_icgeF r44_170 (q_nle (a := q_lo k + 1) (b := 7) (by omega) d7) rfl ?_
      refine x_ld (v := .int (Int32.ofNat (q_lo k + 1))) r44_173 rfl rfl rfl ?_
      refine x_sto (lc' := [.ref a, .int (Int32.ofNat (k + 1)), .int (Int32.ofNat (q_lo k + 1)), .int (Int32.ofNat (q_lo k + 1))]) (st' := []) r44_174 rfl rfl rfl rfl ?_
      obtain ⟨f1, f2, f3⟩ := g1 d7
      have := IH (k + 1) rfl f1
      rw [f2, f3] at this
      exact this
    · refine x_icgeT r44_170 (q_yle (a := 7) (b := q_lo k + 1) (by omega) (by omega)) ?_
      have e28 := g2 (by omega)
      rw [e28]
      exact x_ret (ret := none) (C := True) (v := none) r44_220 rt44 rfl rfl rfl rfl rfl rfl rfl rfl trivial hQ
theorem k44_L {d mc ms c s : Nat} {Q : am_O → am_AH → Prop} (hP : P.length = a) (hQ : Q (.inl none) (P ++ z_Mo a)) : ∀ (r k : Nat), k + r = 27 → am_X xs L 44 d mc ms 175 [.ref a, .int (Int32.ofNat k), .int (Int32.ofNat (q_lo k)), .int (Int32.ofNat (q_hi k))] [] (P ++ z_ML a k) c s Q := by
  intro r
  induction r with
  | zero =>
    intro k hk
    have IH : ∀ k', k' = k + 1 → k' < 28 → am_X xs L 44 d mc ms 175 [.ref a, .int (Int32.ofNat k'), .int (Int32.ofNat (q_lo k')), .int (Int32.ofNat (q_hi k'))] [] (P ++ z_ML a k') c s Q := fun k' _ _ => by omega
    exact k44_S hP hQ k (by omega) IH
  | succ r ih =>
    intro k hk
    exact k44_S hP hQ k (by omega) (fun k' e _ => by subst e; exact ih (k + 1) (by omega))
theorem k44 (hP : P.length = a) (ha : a ≤ 990000) (hS : z_sc a P) : am_Z xs L 44 0 17 2178 [.ref a] (P ++ [c_O 8 [.int 0, .null, .int 0, .int 0, .null, .int 0, .int 0, .int 0, .int 0, .null, .null, .null, .null, .null, .null, .null, .null, .null, .null, .null, .null, .null, .null, .null, .int 0, .long 0]]) (P ++ z_Mo a) := by
  refine am_Zof (mi := am_m44) (lc := [.ref a, am_dead, am_dead, am_dead]) pg44 (Nat.le_of_ble_eq_true rfl) (am_rc2 rfl) rfl (fun Q hQ => ?_)
  refine x_ld (v := .ref a) r44_0 rfl rfl rfl ?_
  refine z_obj r44_1 (Nat.le_of_ble_eq_true rfl) rfl ?_
  refine x_ld (v := .ref a) r44_4 rfl rfl rfl ?_
  refine x_si (v := 1320) r44_5 rfl rfl ?_
  refine z_nai (n := a + 1) (z := 1320) r44_8 (z_len hP rfl) (by omega) (z_sc_app hS (by omega) (fun m hm => z_alO (nv_i (nv_0 (nv_i (nv_i (nv_0 (nv_i (nv_i (nv_i (nv_i (nv_0 (nv_0 (nv_0 (nv_0 (nv_0 (nv_0 (nv_0 (nv_0 (nv_0 (nv_0 (nv_0 (nv_0 (nv_0 (nv_0 (nv_0 (nv_i (nv_j (nv_n))))))))))))))))))))))))))) (z_al0))) (nv_r (by omega) (nv_d (nv_d (nv_d (nv_n))))) (nv_r (by omega) (nv_n)) (by decide) rfl (Nat.le_of_ble_eq_true rfl) (Nat.le_of_ble_eq_true rfl) (Nat.le_of_ble_eq_true rfl) (h' := P ++ [c_O 8 [.int 0, .null, .int 0, .int 0, .null, .int 0, .int 0, .int 0, .int 0, .null, .null, .null, .null, .null, .null, .null, .null, .null, .null, .null, .null, .null, .null, .null, .int 0, .long 0], c_I 1320 (fun _ => 0)]) (z_push _ _ _) rfl ?_
  refine z_pf3 (h' := P ++ [c_O 8 [.int 0, .ref (a + 1), .int 0, .int 0, .null, .int 0, .int 0, .int 0, .int 0, .null, .null, .null, .null, .null, .null, .null, .null, .null, .null, .null, .null, .null, .null, .null, .int 0, .long 0], c_I 1320 (fun _ => 0)]) r44_10 (z_at hP 0 rfl) (Nat.le_of_ble_eq_true rfl) (z_set hP 0 _ rfl) rfl ?_
  refine x_ld (v := .ref a) r44_13 rfl rfl rfl ?_
  refine x_bi (v := 60) r44_14 rfl rfl ?_
  refine z_nai (n := a + 2) (z := 60) r44_16 (z_len hP rfl) (by omega) (z_sc_app hS (by omega) (fun m hm => z_alO (nv_i (nv_r (by omega) (nv_i (nv_i (nv_0 (nv_i (nv_i (nv_i (nv_i (nv_0 (nv_0 (nv_0 (nv_0 (nv_0 (nv_0 (nv_0 (nv_0 (nv_0 (nv_0 (nv_0 (nv_0 (nv_0 (nv_0 (nv_0 (nv_i (nv_j (nv_n))))))))))))))))))))))))))) (z_alI (z_al0)))) (nv_r (by omega) (nv_d (nv_d (nv_d (nv_n))))) (nv_r (by omega) (nv_n)) (by decide) rfl (Nat.le_of_ble_eq_true rfl) (Nat.le_of_ble_eq_true rfl) (Nat.le_of_ble_eq_true rfl) (h' := P ++ [c_O 8 [.int 0, .ref (a + 1), .int 0, .int 0, .null, .int 0, .int 0, .int 0, .int 0, .null, .null, .null, .null, .null, .null, .null, .null, .null, .null, .null, .null, .null, .null, .null, .int 0, .long 0], c_I 1320 (fun _ => 0), c_I 60 (fun _ => 0)]) (z_push _ _ _) rfl ?_
  refine z_pf3 (h' := P ++ [c_O 8 [.int 0, .ref (a + 1), .int 0, .int 0, .ref (a + 2), .int 0, .int 0, .int 0, .int 0, .null, .null, .null, .null, .null, .null, .null, .null, .null, .null, .null, .null, .null, .null, .null, .int 0, .long 0], c_I 1320 (fun _ => 0), c_I 60 (fun _ => 0)]) r44_18 (z_at hP 0 rfl) (Nat.le_of_ble_eq_true rfl) (z_set hP 0 _ rfl) rfl ?_
  refine x_ld (v := .ref a) r44_21 rfl rfl rfl ?_
  refine x_bi (v := 28) r44_22 rfl rfl ?_
  refine z_nai (n := a + 3) (z := 28) r44_24 (z_len hP rfl) (by omega) (z_sc_app hS (by omega) (fun m hm => z_alO (nv_i (nv_r (by omega) (nv_i (nv_i (nv_r (by omega) (nv_i (nv_i (nv_i (nv_i (nv_0 (nv_0 (nv_0 (nv_0 (nv_0 (nv_0 (nv_0 (nv_0 (nv_0 (nv_0 (nv_0 (nv_0 (nv_0 (nv_0 (nv_0 (nv_i (nv_j (nv_n))))))))))))))))))))))))))) (z_alI (z_alI (z_al0))))) (nv_r (by omega) (nv_d (nv_d (nv_d (nv_n))))) (nv_r (by omega) (nv_n)) (by decide) rfl (Nat.le_of_ble_eq_true rfl) (Nat.le_of_ble_eq_true rfl) (Nat.le_of_ble_eq_true rfl) (h' := P ++ [c_O 8 [.int 0, .ref (a + 1), .int 0, .int 0, .ref (a + 2), .int 0, .int 0, .int 0, .int 0, .null, .null, .null, .null, .null, .null, .null, .null, .null, .null, .null, .null, .null, .null, .null, .int 0, .long 0], c_I 1320 (fun _ => 0), c_I 60 (fun _ => 0), c_I 28 (fun _ => 0)]) (z_push _ _ _) rfl ?_
  refine z_pf3 (h' := P ++ [c_O 8 [.int 0, .ref (a + 1), .int 0, .int 0, .ref (a + 2), .int 0, .int 0, .int 0, .int 0, .ref (a + 3), .null, .null, .null, .null, .null, .null, .null, .null, .null, .null, .null, .null, .null, .null, .int 0, .long 0], c_I 1320 (fun _ => 0), c_I 60 (fun _ => 0), c_I 28 (fun _ => 0)]) r44_26 (z_at hP 0 rfl) (Nat.le_of_ble_eq_true rfl) (z_set hP 0 _ rfl) rfl ?_
  refine x_ld (v := .ref a) r44_29 rfl rfl rfl ?_
  refine x_bi (v := 28) r44_30 rfl rfl ?_
  refine z_nai (n := a + 4) (z := 28) r44_32 (z_len hP rfl) (by omega) (z_sc_app hS (by omega) (fun m hm => z_alO (nv_i (nv_r (by omega) (nv_i (nv_i (nv_r (by omega) (nv_i (nv_i (nv_i (nv_i (nv_r (by omega) (nv_0 (nv_0 (nv_0 (nv_0 (nv_0 (nv_0 (nv_0 (nv_0 (nv_0 (nv_0 (nv_0 (nv_0 (nv_0 (nv_0 (nv_i (nv_j (nv_n))))))))))))))))))))))))))) (z_alI (z_alI (z_alI (z_al0)))))) (nv_r (by omega) (nv_d (nv_d (nv_d (nv_n))))) (nv_r (by omega) (nv_n)) (by decide) rfl (Nat.le_of_ble_eq_true rfl) (Nat.le_of_ble_eq_true rfl) (Nat.le_of_ble_eq_true rfl) (h' := P ++ [c_O 8 [.int 0, .ref (a + 1), .int 0, .int 0, .ref (a + 2), .int 0, .int 0, .int 0, .int 0, .ref (a + 3), .null, .null, .null, .null, .null, .null, .null, .null, .null, .null, .null, .null, .null, .null, .int 0, .long 0], c_I 1320 (fun _ => 0), c_I 60 (fun _ => 0), c_I 28 (fun _ => 0), c_I 28 (fun _ => 0)]) (z_push _ _ _) rfl ?_
  refine z_pf3 (h' := P ++ [c_O 8 [.int 0, .ref (a + 1), .int 0, .int 0, .ref (a + 2), .int 0, .int 0, .int 0, .int 0, .ref (a + 3), .ref (a + 4), .null, .null, .null, .null, .null, .null, .null, .null, .null, .null, .null, .null, .null, .int 0, .long 0], c_I 1320 (fun _ => 0), c_I 60 (fun _ => 0), c_I 28 (fun _ => 0), c_I 28 (fun _ => 0)]) r44_34 (z_at hP 0 rfl) (Nat.le_of_ble_eq_true rfl) (z_set hP 0 _ rfl) rfl ?_
  refine x_ld (v := .ref a) r44_37 rfl rfl rfl ?_
  refine x_bi (v := 64) r44_38 rfl rfl ?_
  refine z_nai (n := a + 5) (z := 64) r44_40 (z_len hP rfl) (by omega) (z_sc_app hS (by omega) (fun m hm => z_alO (nv_i (nv_r (by omega) (nv_i (nv_i (nv_r (by omega) (nv_i (nv_i (nv_i (nv_i (nv_r (by omega) (nv_r (by omega) (nv_0 (nv_0 (nv_0 (nv_0 (nv_0 (nv_0 (nv_0 (nv_0 (nv_0 (nv_0 (nv_0 (nv_0 (nv_0 (nv_i (nv_j (nv_n))))))))))))))))))))))))))) (z_alI (z_alI (z_alI (z_alI (z_al0))))))) (nv_r (by omega) (nv_d (nv_d (nv_d (nv_n))))) (nv_r (by omega) (nv_n)) (by decide) rfl (Nat.le_of_ble_eq_true rfl) (Nat.le_of_ble_eq_true rfl) (Nat.le_of_ble_eq_true rfl) (h' := P ++ [c_O 8 [.int 0, .ref (a + 1), .int 0, .int 0, .ref (a + 2), .int 0, .int 0, .int 0, .int 0, .ref (a + 3), .ref (a + 4), .null, .null, .null, .null, .null, .null, .null, .null, .null, .null, .null, .null, .null, .int 0, .long 0], c_I 1320 (fun _ => 0), c_I 60 (fun _ => 0), c_I 28 (fun _ => 0), c_I 28 (fun _ => 0), c_I 64 (fun _ => 0)]) (z_push _ _ _) rfl ?_
  refine z_pf3 (h' := P ++ [c_O 8 [.int 0, .ref (a + 1), .int 0, .int 0, .ref (a + 2), .int 0, .int 0, .int 0, .int 0, .ref (a + 3), .ref (a + 4), .ref (a + 5), .null, .null, .null, .null, .null, .null, .null, .null, .null, .null, .null, .null, .int 0, .long 0], c_I 1320 (fun _ => 0), c_I 60 (fun _ => 0), c_I 28 (fun _ => 0), c_I 28 (fun _ => 0), c_I 64 (fun _ => 0)]) r44_42 (z_at hP 0 rfl) (Nat.le_of_ble_eq_true rfl) (z_set hP 0 _ rfl) rfl ?_
  refine x_ld (v := .ref a) r44_45 rfl rfl rfl ?_
  refine x_ic (v := 3) r44_46 rfl rfl ?_
  refine z_nai (n := a + 6) (z := 3) r44_47 (z_len hP rfl) (by omega) (z_sc_app hS (by omega) (fun m hm => z_alO (nv_i (nv_r (by omega) (nv_i (nv_i (nv_r (by omega) (nv_i (nv_i (nv_i (nv_i (nv_r (by omega) (nv_r (by omega) (nv_r (by omega) (nv_0 (nv_0 (nv_0 (nv_0 (nv_0 (nv_0 (nv_0 (nv_0 (nv_0 (nv_0 (nv_0 (nv_0 (nv_i (nv_j (nv_n))))))))))))))))))))))))))) (z_alI (z_alI (z_alI (z_alI (z_alI (z_al0)))))))) (nv_r (by omega) (nv_d (nv_d (nv_d (nv_n))))) (nv_r (by omega) (nv_n)) (by decide) rfl (Nat.le_of_ble_eq_true rfl) (Nat.le_of_ble_eq_true rfl) (Nat.le_of_ble_eq_true rfl) (h' := P ++ [c_O 8 [.int 0, .ref (a + 1), .int 0, .int 0, .ref (a + 2), .int 0, .int 0, .int 0, .int 0, .ref (a + 3), .ref (a + 4), .ref (a + 5), .null, .null, .null, .null, .null, .null, .null, .null, .null, .null, .null, .null, .int 0, .long 0], c_I 1320 (fun _ => 0), c_I 60 (fun _ => 0), c_I 28 (fun _ => 0), c_I 28 (fun _ => 0), c_I 64 (fun _ => 0), c_I 3 (fun _ => 0)]) (z_push _ _ _) rfl ?_
  refine z_pf3 (h' := P ++ [c_O 8 [.int 0, .ref (a + 1), .int 0, .int 0, .ref (a + 2), .int 0, .int 0, .int 0, .int 0, .ref (a + 3), .ref (a + 4), .ref (a + 5), .ref (a + 6), .null, .null, .null, .null, .null, .null, .null, .null, .null, .null, .null, .int 0, .long 0], c_I 1320 (fun _ => 0), c_I 60 (fun _ => 0), c_I 28 (fun _ => 0), c_I 28 (fun _ => 0), c_I 64 (fun _ => 0), c_I 3 (fun _ => 0)]) r44_49 (z_at hP 0 rfl) (Nat.le_of_ble_eq_true rfl) (z_set hP 0 _ rfl) rfl ?_
  refine x_ld (v := .ref a) r44_52 rfl rfl rfl ?_
  refine x_bi (v := 7) r44_53 rfl rfl ?_
  refine z_nai (n := a + 7) (z := 7) r44_55 (z_len hP rfl) (by omega) (z_sc_app hS (by omega) (fun m hm => z_alO (nv_i (nv_r (by omega) (nv_i (nv_i (nv_r (by omega) (nv_i (nv_i (nv_i (nv_i (nv_r (by omega) (nv_r (by omega) (nv_r (by omega) (nv_r (by omega) (nv_0 (nv_0 (nv_0 (nv_0 (nv_0 (nv_0 (nv_0 (nv_0 (nv_0 (nv_0 (nv_0 (nv_i (nv_j (nv_n))))))))))))))))))))))))))) (z_alI (z_alI (z_alI (z_alI (z_alI (z_alI (z_al0))))))))) (nv_r (by omega) (nv_d (nv_d (nv_d (nv_n))))) (nv_r (by omega) (nv_n)) (by decide) rfl (Nat.le_of_ble_eq_true rfl) (Nat.le_of_ble_eq_true rfl) (Nat.le_of_ble_eq_true rfl) (h' := P ++ [c_O 8 [.int 0, .ref (a + 1), .int 0, .int 0, .ref (a + 2), .int 0, .int 0, .int 0, .int 0, .ref (a + 3), .ref (a + 4), .ref (a + 5), .ref (a + 6), .null, .null, .null, .null, .null, .null, .null, .null, .null, .null, .null, .int 0, .long 0], c_I 1320 (fun _ => 0), c_I 60 (fun _ => 0), c_I 28 (fun _ => 0), c_I 28 (fun _ => 0), c_I 64 (fun _ => 0), c_I 3 (fun _ => 0), c_I 7 (fun _ => 0)]) (z_push _ _ _) rfl ?_
  refine z_pf3 (h' := P ++ [c_O 8 [.int 0, .ref (a + 1), .int 0, .int 0, .ref (a + 2), .int 0, .int 0, .int 0, .int 0, .ref (a + 3), .ref (a + 4), .ref (a + 5), .ref (a + 6), .ref (a + 7), .null, .null, .null, .null, .null, .null, .null, .null, .null, .null, .int 0, .long 0], c_I 1320 (fun _ => 0), c_I 60 (fun _ => 0), c_I 28 (fun _ => 0), c_I 28 (fun _ => 0), c_I 64 (fun _ => 0), c_I 3 (fun _ => 0), c_I 7 (fun _ => 0)]) r44_57 (z_at hP 0 rfl) (Nat.le_of_ble_eq_true rfl) (z_set hP 0 _ rfl) rfl ?_
  refine x_ld (v := .ref a) r44_60 rfl rfl rfl ?_
  refine x_si (v := 128) r44_61 rfl rfl ?_
  refine z_nai (n := a + 8) (z := 128) r44_64 (z_len hP rfl) (by omega) (z_sc_app hS (by omega) (fun m hm => z_alO (nv_i (nv_r (by omega) (nv_i (nv_i (nv_r (by omega) (nv_i (nv_i (nv_i (nv_i (nv_r (by omega) (nv_r (by omega) (nv_r (by omega) (nv_r (by omega) (nv_r (by omega) (nv_0 (nv_0 (nv_0 (nv_0 (nv_0 (nv_0 (nv_0 (nv_0 (nv_0 (nv_0 (nv_i (nv_j (nv_n))))))))))))))))))))))))))) (z_alI (z_alI (z_alI (z_alI (z_alI (z_alI (z_alI (z_al0)))))))))) (nv_r (by omega) (nv_d (nv_d (nv_d (nv_n))))) (nv_r (by omega) (nv_n)) (by decide) rfl (Nat.le_of_ble_eq_true rfl) (Nat.le_of_ble_eq_true rfl) (Nat.le_of_ble_eq_true rfl) (h' := P ++ [c_O 8 [.int 0, .ref (a + 1), .int 0, .int 0, .ref (a + 2), .int 0, .int 0, .int 0, .int 0, .ref (a + 3), .ref (a + 4), .ref (a + 5), .ref (a + 6), .ref (a + 7), .null, .null, .null, .null, .null, .null, .null, .null, .null, .null, .int 0, .long 0], c_I 1320 (fun _ => 0), c_I 60 (fun _ => 0), c_I 28 (fun _ => 0), c_I 28 (fun _ => 0), c_I 64 (fun _ => 0), c_I 3 (fun _ => 0), c_I 7 (fun _ => 0), c_I 128 (fun _ => 0)]) (z_push _ _ _) rfl ?_
  refine z_pf3 (h' := P ++ [c_O 8 [.int 0, .ref (a + 1), .int 0, .int 0, .ref (a + 2), .int 0, .int 0, .int 0, .int 0, .ref (a + 3), .ref (a + 4), .ref (a + 5), .ref (a + 6), .ref (a + 7), .ref (a + 8), .null, .null, .null, .null, .null, .null, .null, .null, .null, .int 0, .long 0], c_I 1320 (fun _ => 0), c_I 60 (fun _ => 0), c_I 28 (fun _ => 0), c_I 28 (fun _ => 0), c_I 64 (fun _ => 0), c_I 3 (fun _ => 0), c_I 7 (fun _ => 0), c_I 128 (fun _ => 0)]) r44_66 (z_at hP 0 rfl) (Nat.le_of_ble_eq_true rfl) (z_set hP 0 _ rfl) rfl ?_
  refine x_ld (v := .ref a) r44_69 rfl rfl rfl ?_
  refine x_bi (v := 28) r44_70 rfl rfl ?_
  refine z_nai (n := a + 9) (z := 28) r44_72 (z_len hP rfl) (by omega) (z_sc_app hS (by omega) (fun m hm => z_alO (nv_i (nv_r (by omega) (nv_i (nv_i (nv_r (by omega) (nv_i (nv_i (nv_i (nv_i (nv_r (by omega) (nv_r (by omega) (nv_r (by omega) (nv_r (by omega) (nv_r (by omega) (nv_r (by omega) (nv_0 (nv_0 (nv_0 (nv_0 (nv_0 (nv_0 (nv_0 (nv_0 (nv_0 (nv_i (nv_j (nv_n))))))))))))))))))))))))))) (z_alI (z_alI (z_alI (z_alI (z_alI (z_alI (z_alI (z_alI (z_al0))))))))))) (nv_r (by omega) (nv_d (nv_d (nv_d (nv_n))))) (nv_r (by omega) (nv_n)) (by decide) rfl (Nat.le_of_ble_eq_true rfl) (Nat.le_of_ble_eq_true rfl) (Nat.le_of_ble_eq_true rfl) (h' := P ++ [c_O 8 [.int 0, .ref (a + 1), .int 0, .int 0, .ref (a + 2), .int 0, .int 0, .int 0, .int 0, .ref (a + 3), .ref (a + 4), .ref (a + 5), .ref (a + 6), .ref (a + 7), .ref (a + 8), .null, .null, .null, .null, .null, .null, .null, .null, .null, .int 0, .long 0], c_I 1320 (fun _ => 0), c_I 60 (fun _ => 0), c_I 28 (fun _ => 0), c_I 28 (fun _ => 0), c_I 64 (fun _ => 0), c_I 3 (fun _ => 0), c_I 7 (fun _ => 0), c_I 128 (fun _ => 0), c_I 28 (fun _ => 0)]) (z_push _ _ _) rfl ?_
  refine z_pf3 (h' := P ++ [c_O 8 [.int 0, .ref (a + 1), .int 0, .int 0, .ref (a + 2), .int 0, .int 0, .int 0, .int 0, .ref (a + 3), .ref (a + 4), .ref (a + 5), .ref (a + 6), .ref (a + 7), .ref (a + 8), .ref (a + 9), .null, .null, .null, .null, .null, .null, .null, .null, .int 0, .long 0], c_I 1320 (fun _ => 0), c_I 60 (fun _ => 0), c_I 28 (fun _ => 0), c_I 28 (fun _ => 0), c_I 64 (fun _ => 0), c_I 3 (fun _ => 0), c_I 7 (fun _ => 0), c_I 128 (fun _ => 0), c_I 28 (fun _ => 0)]) r44_74 (z_at hP 0 rfl) (Nat.le_of_ble_eq_true rfl) (z_set hP 0 _ rfl) rfl ?_
  refine x_ld (v := .ref a) r44_77 rfl rfl rfl ?_
  refine x_bi (v := 64) r44_78 rfl rfl ?_
  refine z_nai (n := a + 10) (z := 64) r44_80 (z_len hP rfl) (by omega) (z_sc_app hS (by omega) (fun m hm => z_alO (nv_i (nv_r (by omega) (nv_i (nv_i (nv_r (by omega) (nv_i (nv_i (nv_i (nv_i (nv_r (by omega) (nv_r (by omega) (nv_r (by omega) (nv_r (by omega) (nv_r (by omega) (nv_r (by omega) (nv_r (by omega) (nv_0 (nv_0 (nv_0 (nv_0 (nv_0 (nv_0 (nv_0 (nv_0 (nv_i (nv_j (nv_n))))))))))))))))))))))))))) (z_alI (z_alI (z_alI (z_alI (z_alI (z_alI (z_alI (z_alI (z_alI (z_al0)))))))))))) (nv_r (by omega) (nv_d (nv_d (nv_d (nv_n))))) (nv_r (by omega) (nv_n)) (by decide) rfl (Nat.le_of_ble_eq_true rfl) (Nat.le_of_ble_eq_true rfl) (Nat.le_of_ble_eq_true rfl) (h' := P ++ [c_O 8 [.int 0, .ref (a + 1), .int 0, .int 0, .ref (a + 2), .int 0, .int 0, .int 0, .int 0, .ref (a + 3), .ref (a + 4), .ref (a + 5), .ref (a + 6), .ref (a + 7), .ref (a + 8), .ref (a + 9), .null, .null, .null, .null, .null, .null, .null, .null, .int 0, .long 0], c_I 1320 (fun _ => 0), c_I 60 (fun _ => 0), c_I 28 (fun _ => 0), c_I 28 (fun _ => 0), c_I 64 (fun _ => 0), c_I 3 (fun _ => 0), c_I 7 (fun _ => 0), c_I 128 (fun _ => 0), c_I 28 (fun _ => 0), c_I 64 (fun _ => 0)]) (z_push _ _ _) rfl ?_
  refine z_pf3 (h' := P ++ [c_O 8 [.int 0, .ref (a + 1), .int 0, .int 0, .ref (a + 2), .int 0, .int 0, .int 0, .int 0, .ref (a + 3), .ref (a + 4), .ref (a + 5), .ref (a + 6), .ref (a + 7), .ref (a + 8), .ref (a + 9), .ref (a + 10), .null, .null, .null, .null, .null, .null, .null, .int 0, .long 0], c_I 1320 (fun _ => 0), c_I 60 (fun _ => 0), c_I 28 (fun _ => 0), c_I 28 (fun _ => 0), c_I 64 (fun _ => 0), c_I 3 (fun _ => 0), c_I 7 (fun _ => 0), c_I 128 (fun _ => 0), c_I 28 (fun _ => 0), c_I 64 (fun _ => 0)]) r44_82 (z_at hP 0 rfl) (Nat.le_of_ble_eq_true rfl) (z_set hP 0 _ rfl) rfl ?_
  refine x_ld (v := .ref a) r44_85 rfl rfl rfl ?_
  refine x_bi (v := 64) r44_86 rfl rfl ?_
  refine z_nai (n := a + 11) (z := 64) r44_88 (z_len hP rfl) (by omega) (z_sc_app hS (by omega) (fun m hm => z_alO (nv_i (nv_r (by omega) (nv_i (nv_i (nv_r (by omega) (nv_i (nv_i (nv_i (nv_i (nv_r (by omega) (nv_r (by omega) (nv_r (by omega) (nv_r (by omega) (nv_r (by omega) (nv_r (by omega) (nv_r (by omega) (nv_r (by omega) (nv_0 (nv_0 (nv_0 (nv_0 (nv_0 (nv_0 (nv_0 (nv_i (nv_j (nv_n))))))))))))))))))))))))))) (z_alI (z_alI (z_alI (z_alI (z_alI (z_alI (z_alI (z_alI (z_alI (z_alI (z_al0))))))))))))) (nv_r (by omega) (nv_d (nv_d (nv_d (nv_n))))) (nv_r (by omega) (nv_n)) (by decide) rfl (Nat.le_of_ble_eq_true rfl) (Nat.le_of_ble_eq_true rfl) (Nat.le_of_ble_eq_true rfl) (h' := P ++ [c_O 8 [.int 0, .ref (a + 1), .int 0, .int 0, .ref (a + 2), .int 0, .int 0, .int 0, .int 0, .ref (a + 3), .ref (a + 4), .ref (a + 5), .ref (a + 6), .ref (a + 7), .ref (a + 8), .ref (a + 9), .ref (a + 10), .null, .null, .null, .null, .null, .null, .null, .int 0, .long 0], c_I 1320 (fun _ => 0), c_I 60 (fun _ => 0), c_I 28 (fun _ => 0), c_I 28 (fun _ => 0), c_I 64 (fun _ => 0), c_I 3 (fun _ => 0), c_I 7 (fun _ => 0), c_I 128 (fun _ => 0), c_I 28 (fun _ => 0), c_I 64 (fun _ => 0), c_I 64 (fun _ => 0)]) (z_push _ _ _) rfl ?_
  refine z_pf3 (h' := P ++ [c_O 8 [.int 0, .ref (a + 1), .int 0, .int 0, .ref (a + 2), .int 0, .int 0, .int 0, .int 0, .ref (a + 3), .ref (a + 4), .ref (a + 5), .ref (a + 6), .ref (a + 7), .ref (a + 8), .ref (a + 9), .ref (a + 10), .ref (a + 11), .null, .null, .null, .null, .null, .null, .int 0, .long 0], c_I 1320 (fun _ => 0), c_I 60 (fun _ => 0), c_I 28 (fun _ => 0), c_I 28 (fun _ => 0), c_I 64 (fun _ => 0), c_I 3 (fun _ => 0), c_I 7 (fun _ => 0), c_I 128 (fun _ => 0), c_I 28 (fun _ => 0), c_I 64 (fun _ => 0), c_I 64 (fun _ => 0)]) r44_90 (z_at hP 0 rfl) (Nat.le_of_ble_eq_true rfl) (z_set hP 0 _ rfl) rfl ?_
  refine x_ld (v := .ref a) r44_93 rfl rfl rfl ?_
  refine x_bi (v := 64) r44_94 rfl rfl ?_
  refine z_nai (n := a + 12) (z := 64) r44_96 (z_len hP rfl) (by omega) (z_sc_app hS (by omega) (fun m hm => z_alO (nv_i (nv_r (by omega) (nv_i (nv_i (nv_r (by omega) (nv_i (nv_i (nv_i (nv_i (nv_r (by omega) (nv_r (by omega) (nv_r (by omega) (nv_r (by omega) (nv_r (by omega) (nv_r (by omega) (nv_r (by omega) (nv_r (by omega) (nv_r (by omega) (nv_0 (nv_0 (nv_0 (nv_0 (nv_0 (nv_0 (nv_i (nv_j (nv_n))))))))))))))))))))))))))) (z_alI (z_alI (z_alI (z_alI (z_alI (z_alI (z_alI (z_alI (z_alI (z_alI (z_alI (z_al0)))))))))))))) (nv_r (by omega) (nv_d (nv_d (nv_d (nv_n))))) (nv_r (by omega) (nv_n)) (by decide) rfl (Nat.le_of_ble_eq_true rfl) (Nat.le_of_ble_eq_true rfl) (Nat.le_of_ble_eq_true rfl) (h' := P ++ [c_O 8 [.int 0, .ref (a + 1), .int 0, .int 0, .ref (a + 2), .int 0, .int 0, .int 0, .int 0, .ref (a + 3), .ref (a + 4), .ref (a + 5), .ref (a + 6), .ref (a + 7), .ref (a + 8), .ref (a + 9), .ref (a + 10), .ref (a + 11), .null, .null, .null, .null, .null, .null, .int 0, .long 0], c_I 1320 (fun _ => 0), c_I 60 (fun _ => 0), c_I 28 (fun _ => 0), c_I 28 (fun _ => 0), c_I 64 (fun _ => 0), c_I 3 (fun _ => 0), c_I 7 (fun _ => 0), c_I 128 (fun _ => 0), c_I 28 (fun _ => 0), c_I 64 (fun _ => 0), c_I 64 (fun _ => 0), c_I 64 (fun _ => 0)]) (z_push _ _ _) rfl ?_
  refine z_pf3 (h' := P ++ [c_O 8 [.int 0, .ref (a + 1), .int 0, .int 0, .ref (a + 2), .int 0, .int 0, .int 0, .int 0, .ref (a + 3), .ref (a + 4), .ref (a + 5), .ref (a + 6), .ref (a + 7), .ref (a + 8), .ref (a + 9), .ref (a + 10), .ref (a + 11), .ref (a + 12), .null, .null, .null, .null, .null, .int 0, .long 0], c_I 1320 (fun _ => 0), c_I 60 (fun _ => 0), c_I 28 (fun _ => 0), c_I 28 (fun _ => 0), c_I 64 (fun _ => 0), c_I 3 (fun _ => 0), c_I 7 (fun _ => 0), c_I 128 (fun _ => 0), c_I 28 (fun _ => 0), c_I 64 (fun _ => 0), c_I 64 (fun _ => 0), c_I 64 (fun _ => 0)]) r44_98 (z_at hP 0 rfl) (Nat.le_of_ble_eq_true rfl) (z_set hP 0 _ rfl) rfl ?_
  refine x_ld (v := .ref a) r44_101 rfl rfl rfl ?_
  refine x_bi (v := 64) r44_102 rfl rfl ?_
  refine z_nai (n := a + 13) (z := 64) r44_104 (z_len hP rfl) (by omega) (z_sc_app hS (by omega) (fun m hm => z_alO (nv_i (nv_r (by omega) (nv_i (nv_i (nv_r (by omega) (nv_i (nv_i (nv_i (nv_i (nv_r (by omega) (nv_r (by omega) (nv_r (by omega) (nv_r (by omega) (nv_r (by omega) (nv_r (by omega) (nv_r (by omega) (nv_r (by omega) (nv_r (by omega) (nv_r (by omega) (nv_0 (nv_0 (nv_0 (nv_0 (nv_0 (nv_i (nv_j (nv_n))))))))))))))))))))))))))) (z_alI (z_alI (z_alI (z_alI (z_alI (z_alI (z_alI (z_alI (z_alI (z_alI (z_alI (z_alI (z_al0))))))))))))))) (nv_r (by omega) (nv_d (nv_d (nv_d (nv_n))))) (nv_r (by omega) (nv_n)) (by decide) rfl (Nat.le_of_ble_eq_true rfl) (Nat.le_of_ble_eq_true rfl) (Nat.le_of_ble_eq_true rfl) (h' := P ++ [c_O 8 [.int 0, .ref (a + 1), .int 0, .int 0, .ref (a + 2), .int 0, .int 0, .int 0, .int 0, .ref (a + 3), .ref (a + 4), .ref (a + 5), .ref (a + 6), .ref (a + 7), .ref (a + 8), .ref (a + 9), .ref (a + 10), .ref (a + 11), .ref (a + 12), .null, .null, .null, .null, .null, .int 0, .long 0], c_I 1320 (fun _ => 0), c_I 60 (fun _ => 0), c_I 28 (fun _ => 0), c_I 28 (fun _ => 0), c_I 64 (fun _ => 0), c_I 3 (fun _ => 0), c_I 7 (fun _ => 0), c_I 128 (fun _ => 0), c_I 28 (fun _ => 0), c_I 64 (fun _ => 0), c_I 64 (fun _ => 0), c_I 64 (fun _ => 0), c_I 64 (fun _ => 0)]) (z_push _ _ _) rfl ?_
  refine z_pf3 (h' := P ++ [c_O 8 [.int 0, .ref (a + 1), .int 0, .int 0, .ref (a + 2), .int 0, .int 0, .int 0, .int 0, .ref (a + 3), .ref (a + 4), .ref (a + 5), .ref (a + 6), .ref (a + 7), .ref (a + 8), .ref (a + 9), .ref (a + 10), .ref (a + 11), .ref (a + 12), .ref (a + 13), .null, .null, .null, .null, .int 0, .long 0], c_I 1320 (fun _ => 0), c_I 60 (fun _ => 0), c_I 28 (fun _ => 0), c_I 28 (fun _ => 0), c_I 64 (fun _ => 0), c_I 3 (fun _ => 0), c_I 7 (fun _ => 0), c_I 128 (fun _ => 0), c_I 28 (fun _ => 0), c_I 64 (fun _ => 0), c_I 64 (fun _ => 0), c_I 64 (fun _ => 0), c_I 64 (fun _ => 0)]) r44_106 (z_at hP 0 rfl) (Nat.le_of_ble_eq_true rfl) (z_set hP 0 _ rfl) rfl ?_
  refine x_ld (v := .ref a) r44_109 rfl rfl rfl ?_
  refine x_bi (v := 64) r44_110 rfl rfl ?_
  refine z_nai (n := a + 14) (z := 64) r44_112 (z_len hP rfl) (by omega) (z_sc_app hS (by omega) (fun m hm => z_alO (nv_i (nv_r (by omega) (nv_i (nv_i (nv_r (by omega) (nv_i (nv_i (nv_i (nv_i (nv_r (by omega) (nv_r (by omega) (nv_r (by omega) (nv_r (by omega) (nv_r (by omega) (nv_r (by omega) (nv_r (by omega) (nv_r (by omega) (nv_r (by omega) (nv_r (by omega) (nv_r (by omega) (nv_0 (nv_0 (nv_0 (nv_0 (nv_i (nv_j (nv_n))))))))))))))))))))))))))) (z_alI (z_alI (z_alI (z_alI (z_alI (z_alI (z_alI (z_alI (z_alI (z_alI (z_alI (z_alI (z_alI (z_al0)))))))))))))))) (nv_r (by omega) (nv_d (nv_d (nv_d (nv_n))))) (nv_r (by omega) (nv_n)) (by decide) rfl (Nat.le_of_ble_eq_true rfl) (Nat.le_of_ble_eq_true rfl) (Nat.le_of_ble_eq_true rfl) (h' := P ++ [c_O 8 [.int 0, .ref (a + 1), .int 0, .int 0, .ref (a + 2), .int 0, .int 0, .int 0, .int 0, .ref (a + 3), .ref (a + 4), .ref (a + 5), .ref (a + 6), .ref (a + 7), .ref (a + 8), .ref (a + 9), .ref (a + 10), .ref (a + 11), .ref (a + 12), .ref (a + 13), .null, .null, .null, .null, .int 0, .long 0], c_I 1320 (fun _ => 0), c_I 60 (fun _ => 0), c_I 28 (fun _ => 0), c_I 28 (fun _ => 0), c_I 64 (fun _ => 0), c_I 3 (fun _ => 0), c_I 7 (fun _ => 0), c_I 128 (fun _ => 0), c_I 28 (fun _ => 0), c_I 64 (fun _ => 0), c_I 64 (fun _ => 0), c_I 64 (fun _ => 0), c_I 64 (fun _ => 0), c_I 64 (fun _ => 0)]) (z_push _ _ _) rfl ?_
  refine z_pf3 (h' := P ++ [c_O 8 [.int 0, .ref (a + 1), .int 0, .int 0, .ref (a + 2), .int 0, .int 0, .int 0, .int 0, .ref (a + 3), .ref (a + 4), .ref (a + 5), .ref (a + 6), .ref (a + 7), .ref (a + 8), .ref (a + 9), .ref (a + 10), .ref (a + 11), .ref (a + 12), .ref (a + 13), .ref (a + 14), .null, .null, .null, .int 0, .long 0], c_I 1320 (fun _ => 0), c_I 60 (fun _ => 0), c_I 28 (fun _ => 0), c_I 28 (fun _ => 0), c_I 64 (fun _ => 0), c_I 3 (fun _ => 0), c_I 7 (fun _ => 0), c_I 128 (fun _ => 0), c_I 28 (fun _ => 0), c_I 64 (fun _ => 0), c_I 64 (fun _ => 0), c_I 64 (fun _ => 0), c_I 64 (fun _ => 0), c_I 64 (fun _ => 0)]) r44_114 (z_at hP 0 rfl) (Nat.le_of_ble_eq_true rfl) (z_set hP 0 _ rfl) rfl ?_
  refine x_ld (v := .ref a) r44_117 rfl rfl rfl ?_
  refine x_bi (v := 64) r44_118 rfl rfl ?_
  refine z_nai (n := a + 15) (z := 64) r44_120 (z_len hP rfl) (by omega) (z_sc_app hS (by omega) (fun m hm => z_alO (nv_i (nv_r (by omega) (nv_i (nv_i (nv_r (by omega) (nv_i (nv_i (nv_i (nv_i (nv_r (by omega) (nv_r (by omega) (nv_r (by omega) (nv_r (by omega) (nv_r (by omega) (nv_r (by omega) (nv_r (by omega) (nv_r (by omega) (nv_r (by omega) (nv_r (by omega) (nv_r (by omega) (nv_r (by omega) (nv_0 (nv_0 (nv_0 (nv_i (nv_j (nv_n))))))))))))))))))))))))))) (z_alI (z_alI (z_alI (z_alI (z_alI (z_alI (z_alI (z_alI (z_alI (z_alI (z_alI (z_alI (z_alI (z_alI (z_al0))))))))))))))))) (nv_r (by omega) (nv_d (nv_d (nv_d (nv_n))))) (nv_r (by omega) (nv_n)) (by decide) rfl (Nat.le_of_ble_eq_true rfl) (Nat.le_of_ble_eq_true rfl) (Nat.le_of_ble_eq_true rfl) (h' := P ++ [c_O 8 [.int 0, .ref (a + 1), .int 0, .int 0, .ref (a + 2), .int 0, .int 0, .int 0, .int 0, .ref (a + 3), .ref (a + 4), .ref (a + 5), .ref (a + 6), .ref (a + 7), .ref (a + 8), .ref (a + 9), .ref (a + 10), .ref (a + 11), .ref (a + 12), .ref (a + 13), .ref (a + 14), .null, .null, .null, .int 0, .long 0], c_I 1320 (fun _ => 0), c_I 60 (fun _ => 0), c_I 28 (fun _ => 0), c_I 28 (fun _ => 0), c_I 64 (fun _ => 0), c_I 3 (fun _ => 0), c_I 7 (fun _ => 0), c_I 128 (fun _ => 0), c_I 28 (fun _ => 0), c_I 64 (fun _ => 0), c_I 64 (fun _ => 0), c_I 64 (fun _ => 0), c_I 64 (fun _ => 0), c_I 64 (fun _ => 0), c_I 64 (fun _ => 0)]) (z_push _ _ _) rfl ?_
  refine z_pf3 (h' := P ++ [c_O 8 [.int 0, .ref (a + 1), .int 0, .int 0, .ref (a + 2), .int 0, .int 0, .int 0, .int 0, .ref (a + 3), .ref (a + 4), .ref (a + 5), .ref (a + 6), .ref (a + 7), .ref (a + 8), .ref (a + 9), .ref (a + 10), .ref (a + 11), .ref (a + 12), .ref (a + 13), .ref (a + 14), .ref (a + 15), .null, .null, .int 0, .long 0], c_I 1320 (fun _ => 0), c_I 60 (fun _ => 0), c_I 28 (fun _ => 0), c_I 28 (fun _ => 0), c_I 64 (fun _ => 0), c_I 3 (fun _ => 0), c_I 7 (fun _ => 0), c_I 128 (fun _ => 0), c_I 28 (fun _ => 0), c_I 64 (fun _ => 0), c_I 64 (fun _ => 0), c_I 64 (fun _ => 0), c_I 64 (fun _ => 0), c_I 64 (fun _ => 0), c_I 64 (fun _ => 0)]) r44_122 (z_at hP 0 rfl) (Nat.le_of_ble_eq_true rfl) (z_set hP 0 _ rfl) rfl ?_
  refine x_ld (v := .ref a) r44_125 rfl rfl rfl ?_
  refine x_bi (v := 64) r44_126 rfl rfl ?_
  refine z_nai (n := a + 16) (z := 64) r44_128 (z_len hP rfl) (by omega) (z_sc_app hS (by omega) (fun m hm => z_alO (nv_i (nv_r (by omega) (nv_i (nv_i (nv_r (by omega) (nv_i (nv_i (nv_i (nv_i (nv_r (by omega) (nv_r (by omega) (nv_r (by omega) (nv_r (by omega) (nv_r (by omega) (nv_r (by omega) (nv_r (by omega) (nv_r (by omega) (nv_r (by omega) (nv_r (by omega) (nv_r (by omega) (nv_r (by omega) (nv_r (by omega) (nv_0 (nv_0 (nv_i (nv_j (nv_n))))))))))))))))))))))))))) (z_alI (z_alI (z_alI (z_alI (z_alI (z_alI (z_alI (z_alI (z_alI (z_alI (z_alI (z_alI (z_alI (z_alI (z_alI (z_al0)))))))))))))))))) (nv_r (by omega) (nv_d (nv_d (nv_d (nv_n))))) (nv_r (by omega) (nv_n)) (by decide) rfl (Nat.le_of_ble_eq_true rfl) (Nat.le_of_ble_eq_true rfl) (Nat.le_of_ble_eq_true rfl) (h' := P ++ [c_O 8 [.int 0, .ref (a + 1), .int 0, .int 0, .ref (a + 2), .int 0, .int 0, .int 0, .int 0, .ref (a + 3), .ref (a + 4), .ref (a + 5), .ref (a + 6), .ref (a + 7), .ref (a + 8), .ref (a + 9), .ref (a + 10), .ref (a + 11), .ref (a + 12), .ref (a + 13), .ref (a + 14), .ref (a + 15), .null, .null, .int 0, .long 0], c_I 1320 (fun _ => 0), c_I 60 (fun _ => 0), c_I 28 (fun _ => 0), c_I 28 (fun _ => 0), c_I 64 (fun _ => 0), c_I 3 (fun _ => 0), c_I 7 (fun _ => 0), c_I 128 (fun _ => 0), c_I 28 (fun _ => 0), c_I 64 (fun _ => 0), c_I 64 (fun _ => 0), c_I 64 (fun _ => 0), c_I 64 (fun _ => 0), c_I 64 (fun _ => 0), c_I 64 (fun _ => 0), c_I 64 (fun _ => 0)]) (z_push _ _ _) rfl ?_
  refine z_pf3 (h' := P ++ [c_O 8 [.int 0, .ref (a + 1), .int 0, .int 0, .ref (a + 2), .int 0, .int 0, .int 0, .int 0, .ref (a + 3), .ref (a + 4), .ref (a + 5), .ref (a + 6), .ref (a + 7), .ref (a + 8), .ref (a + 9), .ref (a + 10), .ref (a + 11), .ref (a + 12), .ref (a + 13), .ref (a + 14), .ref (a + 15), .ref (a + 16), .null, .int 0, .long 0], c_I 1320 (fun _ => 0), c_I 60 (fun _ => 0), c_I 28 (fun _ => 0), c_I 28 (fun _ => 0), c_I 64 (fun _ => 0), c_I 3 (fun _ => 0), c_I 7 (fun _ => 0), c_I 128 (fun _ => 0), c_I 28 (fun _ => 0), c_I 64 (fun _ => 0), c_I 64 (fun _ => 0), c_I 64 (fun _ => 0), c_I 64 (fun _ => 0), c_I 64 (fun _ => 0), c_I 64 (fun _ => 0), c_I 64 (fun _ => 0)]) r44_130 (z_at hP 0 rfl) (Nat.le_of_ble_eq_true rfl) (z_set hP 0 _ rfl) rfl ?_
  refine x_ld (v := .ref a) r44_133 rfl rfl rfl ?_
  refine x_bi (v := 64) r44_134 rfl rfl ?_
  refine z_nai (n := a + 17) (z := 64) r44_136 (z_len hP rfl) (by omega) (z_sc_app hS (by omega) (fun m hm => z_alO (nv_i (nv_r (by omega) (nv_i (nv_i (nv_r (by omega) (nv_i (nv_i (nv_i (nv_i (nv_r (by omega) (nv_r (by omega) (nv_r (by omega) (nv_r (by omega) (nv_r (by omega) (nv_r (by omega) (nv_r (by omega) (nv_r (by omega) (nv_r (by omega) (nv_r (by omega) (nv_r (by omega) (nv_r (by omega) (nv_r (by omega) (nv_r (by omega) (nv_0 (nv_i (nv_j (nv_n))))))))))))))))))))))))))) (z_alI (z_alI (z_alI (z_alI (z_alI (z_alI (z_alI (z_alI (z_alI (z_alI (z_alI (z_alI (z_alI (z_alI (z_alI (z_alI (z_al0))))))))))))))))))) (nv_r (by omega) (nv_d (nv_d (nv_d (nv_n))))) (nv_r (by omega) (nv_n)) (by decide) rfl (Nat.le_of_ble_eq_true rfl) (Nat.le_of_ble_eq_true rfl) (Nat.le_of_ble_eq_true rfl) (h' := P ++ [c_O 8 [.int 0, .ref (a + 1), .int 0, .int 0, .ref (a + 2), .int 0, .int 0, .int 0, .int 0, .ref (a + 3), .ref (a + 4), .ref (a + 5), .ref (a + 6), .ref (a + 7), .ref (a + 8), .ref (a + 9), .ref (a + 10), .ref (a + 11), .ref (a + 12), .ref (a + 13), .ref (a + 14), .ref (a + 15), .ref (a + 16), .null, .int 0, .long 0], c_I 1320 (fun _ => 0), c_I 60 (fun _ => 0), c_I 28 (fun _ => 0), c_I 28 (fun _ => 0), c_I 64 (fun _ => 0), c_I 3 (fun _ => 0), c_I 7 (fun _ => 0), c_I 128 (fun _ => 0), c_I 28 (fun _ => 0), c_I 64 (fun _ => 0), c_I 64 (fun _ => 0), c_I 64 (fun _ => 0), c_I 64 (fun _ => 0), c_I 64 (fun _ => 0), c_I 64 (fun _ => 0), c_I 64 (fun _ => 0), c_I 64 (fun _ => 0)]) (z_push _ _ _) rfl ?_
  refine z_pf3 (h' := P ++ [c_O 8 [.int 0, .ref (a + 1), .int 0, .int 0, .ref (a + 2), .int 0, .int 0, .int 0, .int 0, .ref (a + 3), .ref (a + 4), .ref (a + 5), .ref (a + 6), .ref (a + 7), .ref (a + 8), .ref (a + 9), .ref (a + 10), .ref (a + 11), .ref (a + 12), .ref (a + 13), .ref (a + 14), .ref (a + 15), .ref (a + 16), .ref (a + 17), .int 0, .long 0], c_I 1320 (fun _ => 0), c_I 60 (fun _ => 0), c_I 28 (fun _ => 0), c_I 28 (fun _ => 0), c_I 64 (fun _ => 0), c_I 3 (fun _ => 0), c_I 7 (fun _ => 0), c_I 128 (fun _ => 0), c_I 28 (fun _ => 0), c_I 64 (fun _ => 0), c_I 64 (fun _ => 0), c_I 64 (fun _ => 0), c_I 64 (fun _ => 0), c_I 64 (fun _ => 0), c_I 64 (fun _ => 0), c_I 64 (fun _ => 0), c_I 64 (fun _ => 0)]) r44_138 (z_at hP 0 rfl) (Nat.le_of_ble_eq_true rfl) (z_set hP 0 _ rfl) rfl ?_
  refine x_ld (v := .ref a) r44_141 rfl rfl rfl ?_
  refine z_gf (v := .ref (a + 1)) r44_142 (z_at hP 0 rfl) rfl rfl ?_
  refine x_ic (v := 2) r44_145 rfl rfl ?_
  refine x_ic (v := -1) r44_146 rfl rfl ?_
  refine z_ias (h' := P ++ [c_O 8 [.int 0, .ref (a + 1), .int 0, .int 0, .ref (a + 2), .int 0, .int 0, .int 0, .int 0, .ref (a + 3), .ref (a + 4), .ref (a + 5), .ref (a + 6), .ref (a + 7), .ref (a + 8), .ref (a + 9), .ref (a + 10), .ref (a + 11), .ref (a + 12), .ref (a + 13), .ref (a + 14), .ref (a + 15), .ref (a + 16), .ref (a + 17), .int 0, .long 0], c_I 1320 (upd (fun _ => 0) 2 (-1)), c_I 60 (fun _ => 0), c_I 28 (fun _ => 0), c_I 28 (fun _ => 0), c_I 64 (fun _ => 0), c_I 3 (fun _ => 0), c_I 7 (fun _ => 0), c_I 128 (fun _ => 0), c_I 28 (fun _ => 0), c_I 64 (fun _ => 0), c_I 64 (fun _ => 0), c_I 64 (fun _ => 0), c_I 64 (fun _ => 0), c_I 64 (fun _ => 0), c_I 64 (fun _ => 0), c_I 64 (fun _ => 0), c_I 64 (fun _ => 0)]) r44_147 (z_at hP 1 rfl) (Nat.le_of_ble_eq_true rfl) (by decide) (e := 2) rfl (z_set hP 1 _ rfl) rfl ?_
  refine x_ld (v := .ref a) r44_148 rfl rfl rfl ?_
  refine z_gf (v := .ref (a + 1)) r44_149 (z_at hP 0 rfl) rfl rfl ?_
  refine x_ic (v := 3) r44_152 rfl rfl ?_
  refine x_bi (v := 20) r44_153 rfl rfl ?_
  refine z_ias (h' := P ++ [c_O 8 [.int 0, .ref (a + 1), .int 0, .int 0, .ref (a + 2), .int 0, .int 0, .int 0, .int 0, .ref (a + 3), .ref (a + 4), .ref (a + 5), .ref (a + 6), .ref (a + 7), .ref (a + 8), .ref (a + 9), .ref (a + 10), .ref (a + 11), .ref (a + 12), .ref (a + 13), .ref (a + 14), .ref (a + 15), .ref (a + 16), .ref (a + 17), .int 0, .long 0], c_I 1320 (upd (upd (fun _ => 0) 2 (-1)) 3 20), c_I 60 (fun _ => 0), c_I 28 (fun _ => 0), c_I 28 (fun _ => 0), c_I 64 (fun _ => 0), c_I 3 (fun _ => 0), c_I 7 (fun _ => 0), c_I 128 (fun _ => 0), c_I 28 (fun _ => 0), c_I 64 (fun _ => 0), c_I 64 (fun _ => 0), c_I 64 (fun _ => 0), c_I 64 (fun _ => 0), c_I 64 (fun _ => 0), c_I 64 (fun _ => 0), c_I 64 (fun _ => 0), c_I 64 (fun _ => 0)]) r44_155 (z_at hP 1 rfl) (Nat.le_of_ble_eq_true rfl) (by decide) (e := 3) rfl (z_set hP 1 _ rfl) rfl ?_
  refine x_ld (v := .ref a) r44_156 rfl rfl rfl ?_
  refine z_gf (v := .ref (a + 1)) r44_157 (z_at hP 0 rfl) rfl rfl ?_
  refine x_ic (v := 5) r44_160 rfl rfl ?_
  refine x_ic (v := -1) r44_161 rfl rfl ?_
  refine z_ias (h' := P ++ [c_O 8 [.int 0, .ref (a + 1), .int 0, .int 0, .ref (a + 2), .int 0, .int 0, .int 0, .int 0, .ref (a + 3), .ref (a + 4), .ref (a + 5), .ref (a + 6), .ref (a + 7), .ref (a + 8), .ref (a + 9), .ref (a + 10), .ref (a + 11), .ref (a + 12), .ref (a + 13), .ref (a + 14), .ref (a + 15), .ref (a + 16), .ref (a + 17), .int 0, .long 0], c_I 1320 (upd (upd (upd (fun _ => 0) 2 (-1)) 3 20) 5 (-1)), c_I 60 (fun _ => 0), c_I 28 (fun _ => 0), c_I 28 (fun _ => 0), c_I 64 (fun _ => 0), c_I 3 (fun _ => 0), c_I 7 (fun _ => 0), c_I 128 (fun _ => 0), c_I 28 (fun _ => 0), c_I 64 (fun _ => 0), c_I 64 (fun _ => 0), c_I 64 (fun _ => 0), c_I 64 (fun _ => 0), c_I 64 (fun _ => 0), c_I 64 (fun _ => 0), c_I 64 (fun _ => 0), c_I 64 (fun _ => 0)]) r44_162 (z_at hP 1 rfl) (Nat.le_of_ble_eq_true rfl) (by decide) (e := 5) rfl (z_set hP 1 _ rfl) rfl ?_
  have h0 := k44_L (xs := xs) (L := L) (d := 0) (mc := 17) (ms := 2178) (c := 17) (s := 2178) hP hQ 27 0 rfl
  refine x_ic (v := 0) r44_163 rfl rfl ?_
  refine x_sto (lc' := [.ref a, .int 0, am_dead, am_dead]) (st' := []) r44_164 rfl rfl rfl rfl ?_
  refine x_ic (v := 0) r44_165 rfl rfl ?_
  refine x_sto (lc' := [.ref a, .int 0, .int 0, am_dead]) (st' := []) r44_166 rfl rfl rfl rfl ?_
  refine x_ld (v := .int 0) r44_167 rfl rfl rfl ?_
  refine x_bi (v := 7) r44_168 rfl rfl ?_
  refine x_icgeF r44_170 (by decide) rfl ?_
  refine x_ld (v := .int 0) r44_173 rfl rfl rfl ?_
  refine x_sto (lc' := [.ref a, .int 0, .int 0, .int 0]) (st' := []) r44_174 rfl rfl rfl rfl ?_
  have e : P ++ [c_O 8 [.int 0, .ref (a + 1), .int 0, .int 0, .ref (a + 2), .int 0, .int 0, .int 0, .int 0, .ref (a + 3), .ref (a + 4), .ref (a + 5), .ref (a + 6), .ref (a + 7), .ref (a + 8), .ref (a + 9), .ref (a + 10), .ref (a + 11), .ref (a + 12), .ref (a + 13), .ref (a + 14), .ref (a + 15), .ref (a + 16), .ref (a + 17), .int 0, .long 0], c_I 1320 (upd (upd (upd (fun _ => 0) 2 (-1)) 3 20) 5 (-1)), c_I 60 (fun _ => 0), c_I 28 (fun _ => 0), c_I 28 (fun _ => 0), c_I 64 (fun _ => 0), c_I 3 (fun _ => 0), c_I 7 (fun _ => 0), c_I 128 (fun _ => 0), c_I 28 (fun _ => 0), c_I 64 (fun _ => 0), c_I 64 (fun _ => 0), c_I 64 (fun _ => 0), c_I 64 (fun _ => 0), c_I 64 (fun _ => 0), c_I 64 (fun _ => 0), c_I 64 (fun _ => 0), c_I 64 (fun _ => 0)] = P ++ z_ML a 0 := by
    unfold z_ML
    rw [← z_m70, ← z_lo0, ← z_hi0]
  rw [e]
  exact h0
end SF
