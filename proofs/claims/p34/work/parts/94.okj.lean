/-! the tables of methods, decided row by row (by wip/p34/tools/gen_ok34.py) -/
theorem am_okr293 : am_m293.2.2.all (am_rowOk am_m293) = true := by
  have h : (am_m293.2.2.drop 0).all (am_rowOk am_m293) = true := am_sliceC 40 0 am_okS293_0 (am_sliceC 40 40 am_okS293_40 (am_sliceC 40 80 am_okS293_80 (am_sliceC 40 120 am_okS293_120 (am_sliceC 40 160 am_okS293_160 (am_sliceC 40 200 am_okS293_200 (am_sliceC 40 240 am_okS293_240 (am_sliceC 40 280 am_okS293_280 (am_sliceC 40 320 am_okS293_320 (am_sliceC 40 360 am_okS293_360 (am_sliceC 40 400 am_okS293_400 (am_sliceC 40 440 am_okS293_440 (am_sliceC 40 480 am_okS293_480 (am_sliceE am_len293)))))))))))))
  exact h
theorem am_wd_of {j : Nat} {w : Cond} (h : lw_tbl[j]? = some w) (hg : goodWord w = true) : am_wd j w = true := by
  show (decide (lw_tbl[j]? = some w) && goodWord w) = true
  rw [Bool.and_eq_true]
  exact ⟨decide_eq_true h, hg⟩
theorem am_methOk_of {mi : am_MI} {jc jk js ji : Nat} (h : mi.2.1.2.2.1 = [jc, jk, js, ji]) (hh : mi.2.1.2.2.2 = []) (h1 : am_wd jc (.code mi.1.2.1 mi.1.2.2.1 mi.1.2.2.2.1 mi.1.2.2.2.2) = true)
    (h2 : ((match mi.2.1.1 with
      | 0 => am_wd jk (.static mi.1.2.1)
      | 1 => am_wd jk (.instanceMethod mi.1.2.1) && (am_wd js (.selects mi.1.2.1.cls mi.1.2.1 mi.1.2.1) && decide (mi.2.1.2.2.2 = []))
      | _ => am_wd jk (.instanceMethod mi.1.2.1) && (mi.1.2.1.name == "<init>" && (decide (mi.1.2.2.2.2 = none) && decide (mi.2.1.2.2.2 = [])))) &&
    (am_wd ji (.initialized mi.1.2.1.cls) && (plainName mi.1.2.1.cls && (mi.1.2.1.cls == mi.1.1 && (!(mi.1.2.1.cls == "java/lang/invoke/MethodHandle") && (!(mi.1.2.1.cls == "java/lang/invoke/VarHandle") && (((parseMethodDescriptor mi.1.2.1.desc).map (fun d => d.parameters.length) == some mi.2.1.2.1) && decide (mi.1.2.2.2.1 + 19 ≤ 64)))))))) = true) : am_methOk mi = true := by
  obtain ⟨a, ⟨b1, b2, b3, b4⟩, c⟩ := mi
  have h' : b3 = [jc, jk, js, ji] := h
  have hh' : b4 = [] := hh
  subst h'
  subst hh'
  show (am_wd jc _ && _) = true
  rw [Bool.and_eq_true]
  exact ⟨h1, h2⟩
set_option maxRecDepth 1000000 in
theorem am_okc293 : lw_tbl[780]? = some (.code am_m293.1.2.1 am_m293.1.2.2.1 am_m293.1.2.2.2.1 am_m293.1.2.2.2.2) := by rfl
theorem am_okm293 : am_methOk am_m293 = true := am_methOk_of (jc := 780) (jk := 779) (js := 0) (ji := 19) rfl rfl (am_wd_of am_okc293 (by decide +kernel)) (by decide +kernel)
theorem am_ok293 : (am_m293.2.2.all (am_rowOk am_m293) && am_methOk am_m293) = true := by rw [Bool.and_eq_true]; exact ⟨am_okr293, am_okm293⟩
theorem am_okS294_0 : ((am_m294.2.2.drop 0).take 40).all (am_rowOk am_m294) = true := by decide +kernel
theorem am_okS294_40 : ((am_m294.2.2.drop 40).take 40).all (am_rowOk am_m294) = true := by decide +kernel
theorem am_okS294_80 : ((am_m294.2.2.drop 80).take 40).all (am_rowOk am_m294) = true := by decide +kernel
theorem am_okS294_120 : ((am_m294.2.2.drop 120).take 40).all (am_rowOk am_m294) = true := by decide +kernel
theorem am_okS294_160 : ((am_m294.2.2.drop 160).take 40).all (am_rowOk am_m294) = true := by decide +kernel
theorem am_len294 : am_m294.2.2.length ≤ 200 := by decide +kernel
theorem am_okr294 : am_m294.2.2.all (am_rowOk am_m294) = true := by
  have h : (am_m294.2.2.drop 0).all (am_rowOk am_m294) = true := am_sliceC 40 0 am_okS294_0 (am_sliceC 40 40 am_okS294_40 (am_sliceC 40 80 am_okS294_80 (am_sliceC 40 120 am_okS294_120 (am_sliceC 40 160 am_okS294_160 (am_sliceE am_len294)))))
  exact h
set_option maxRecDepth 1000000 in
theorem am_okc294 : lw_tbl[850]? = some (.code am_m294.1.2.1 am_m294.1.2.2.1 am_m294.1.2.2.2.1 am_m294.1.2.2.2.2) := by rfl
theorem am_okm294 : am_methOk am_m294 = true := am_methOk_of (jc := 850) (jk := 849) (js := 0) (ji := 19) rfl rfl (am_wd_of am_okc294 (by decide +kernel)) (by decide +kernel)
theorem am_ok294 : (am_m294.2.2.all (am_rowOk am_m294) && am_methOk am_m294) = true := by rw [Bool.and_eq_true]; exact ⟨am_okr294, am_okm294⟩
theorem am_okS295_0 : ((am_m295.2.2.drop 0).take 40).all (am_rowOk am_m295) = true := by decide +kernel
theorem am_okS295_40 : ((am_m295.2.2.drop 40).take 40).all (am_rowOk am_m295) = true := by decide +kernel
theorem am_okS295_80 : ((am_m295.2.2.drop 80).take 40).all (am_rowOk am_m295) = true := by decide +kernel
