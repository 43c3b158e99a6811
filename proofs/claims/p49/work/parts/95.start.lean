/-! what the constructors leave, as stores -/
def xW : St := (fun o j k => match o with | 0 => (match j with | 0 => (match k with | 3 => 3 | 4 => 99 | 6 => 1 | _ => 0) | 1 => upd (upd (upd (upd (fun _ => 0) 0 1) 1 5) 2 3) 3 9 k | _ => 0) | _ => 0, fun _ _ _ => 0)
def xK : St := (fun _ j k => match j with | 0 => (match k with | 9 => -1 | _ => 0) | _ => 0, fun _ _ _ => 0)
def x0 : St := (fun _ _ _ => 0, fun _ _ _ => 0)
def xC : St := (fun _ j k => match j with | 0 => (match k with | 3 => -1 | _ => 0) | 2 => xP k | _ => 0, fun _ _ _ => 0)
def T0 : TT := (xW, xW, xW, fun _ => xW, xK, xK, x0, x0, x0, xC, x0, x0)
abbrev cF (κ : KX) (T : TT) : Pth → Nat × va_E := fun p => (κ.2.2.1 p.1 p.2.1 p.2.2, cE κ T p.1 p.2.1 p.2.2)
def PBo (r o : Nat) : List Pth := [(r, o, 0), (r, o, 1), (r, o, 2), (r, o, 3), (r, o, 4)]
def PW (r : Nat) : List Pth := [(r, 0, 0), (r, 0, 1), (r, 0, 2)] ++ (PBo r 8 ++ (PBo r 7 ++ (PBo r 6 ++ (PBo r 5 ++ (PBo r 4 ++ (PBo r 3 ++ (PBo r 2 ++ PBo r 1)))))))
def PK (r : Nat) : List Pth := [(r, 0, 0), (r, 0, 1), (r, 0, 2), (r, 0, 3)]
def PC : List Pth := [(8, 0, 2), (8, 0, 1), (8, 0, 0)]
def PS : List Pth := [(6, 0, 5), (6, 0, 4), (6, 0, 3), (6, 0, 2), (6, 0, 1)] ++ (PK 4 ++ [(6, 0, 0)])
def PD : List Pth := PK 3 ++ [(5, 0, 0)]
def PG : List Pth := [(7, 0, 0), (7, 0, 1)]
def PO : List Pth := PC ++ (PS ++ (PD ++ (PG ++ (PW 16 ++ (PW 15 ++ (PW 14 ++ (PW 13 ++ (PW 12 ++ (PW 11 ++ (PW 2 ++ (PW 1 ++ PW 0)))))))))))
theorem PO_perm : PO.Perm PL := by decide +kernel
section
variable (κ : KX)
theorem eC : oC κ κ.2.2.1 = PC.map (cF κ T0) := rfl
theorem eS : sLp κ (fun j => if j < 6 then κ.2.2.1 6 0 j else κ.2.2.1 4 0 (j - 6)) = PS.map (cF κ T0) := rfl
theorem eD : dL κ (fun j => if j = 0 then κ.2.2.1 5 0 0 else κ.2.2.1 3 0 (j - 1)) = PD.map (cF κ T0) := rfl
theorem eG : gLp κ (κ.2.2.1 7 0) = PG.map (cF κ T0) := rfl
theorem eB {r : Nat} (h : isW r) (hx : rg T0 r = xW) {o : Nat} (ho : isO o) : bL κ (κ.2.2.1 r o) = (PBo r o).map (cF κ T0) := by
  obtain ⟨i, rfl⟩ : ∃ i, o = i + 1 := ⟨o - 1, by have := ho.1; omega⟩
  show bL κ (κ.2.2.1 r (i + 1)) = [cF κ T0 (r, i + 1, 0), cF κ T0 (r, i + 1, 1), cF κ T0 (r, i + 1, 2), cF κ T0 (r, i + 1, 3), cF κ T0 (r, i + 1, 4)]
  unfold cF
  rw [cE_obj (kd_o0 h ho) hx, cE_i (kd_o1 h ho) hx, cE_i (kd_o2 h ho) hx, cE_i (kd_o3 h ho) hx, cE_i (kd_o4 h ho) hx]
  rfl
theorem eW {r : Nat} (h : isW r) (hx : rg T0 r = xW) : wLr κ (κ.2.2.1 r) = (PW r).map (cF κ T0) := by
  have b (o : Nat) (ho : isO o) := eB κ h hx ho
  unfold wLr PW
  rw [b 8 ⟨by decide, by decide⟩, b 7 ⟨by decide, by decide⟩, b 6 ⟨by decide, by decide⟩, b 5 ⟨by decide, by decide⟩, b 4 ⟨by decide, by decide⟩, b 3 ⟨by decide, by decide⟩, b 2 ⟨by decide, by decide⟩, b 1 ⟨by decide, by decide⟩]
  simp only [List.map_append]
  congr 1
  show _ = [cF κ T0 (r, 0, 0), cF κ T0 (r, 0, 1), cF κ T0 (r, 0, 2)]
  unfold cF
  rw [cE_obj (kd_w0 h) hx, cE_i (kd_w1 h) hx, cE_q (kd_w2 h)]
  rfl
theorem eO : oL κ κ.2.2.1 [] = PO.map (cF κ T0) := by
  have w (k : Nat) (hk : k < 6) : wLr κ (κ.2.2.1 (k + 11)) = (PW (k + 11)).map (cF κ T0) := eW κ (Or.inr ⟨by omega, by omega⟩) rfl
  unfold oL PO
  rw [eC, eS, eD, eG, w 5 (by decide), w 4 (by decide), w 3 (by decide), w 2 (by decide), w 1 (by decide), w 0 (by decide), eW κ (r := 2) (Or.inl (by decide)) rfl, eW κ (r := 1) (Or.inl (by decide)) rfl, eW κ (r := 0) (Or.inl (by decide)) rfl]
  simp only [List.map_append, List.append_nil]
end
