/-! ===== rows: what is read, by its name ===== -/
section YNamed
variable {X : xX} {Z : eZt} {G : eG} {R : Room} {K : eK} {pc : Nat} {l l' : List (Nat × Value)} {S : List Value} {M : eM} {H : yH} {ca sl : Nat}
theorem y_ialdx {a N : Nat} {f : Nat → Int32} {i x : Int32} (hdg : decode (kCode K) pc = .ok (.iaload, 1)) (he : H a = some (.inl (G.2.2.2 0, (N, .inl f)))) (hin : vp_in i N) (hx : f i.toNatClampNeg = x) (kk : Yx X Z G R K (pc + 1) l (.int x :: S) M H ca sl) : Yx X Z G R K pc l (.int i :: .ref a :: S) M H ca sl :=
  y_iald hdg he hin (by rw [hx]; exact kk)
theorem y_baldx {a N : Nat} {f : Nat → Int32} {i x : Int32} (hdg : decode (kCode K) pc = .ok (.baload, 1)) (he : H a = some (.inl (G.2.2.2 1, (N, .inl f)))) (hin : vp_in i N) (hx : f i.toNatClampNeg = x) (kk : Yx X Z G R K (pc + 1) l (.int x :: S) M H ca sl) : Yx X Z G R K pc l (.int i :: .ref a :: S) M H ca sl :=
  y_bald hdg he hin (by rw [hx]; exact kk)
theorem y_zaldx {a N : Nat} {f : Nat → Int32} {i x : Int32} (hdg : decode (kCode K) pc = .ok (.baload, 1)) (he : H a = some (.inl (G.2.2.2 2, (N, .inl f)))) (hin : vp_in i N) (hx : f i.toNatClampNeg = x) (kk : Yx X Z G R K (pc + 1) l (.int x :: S) M H ca sl) : Yx X Z G R K pc l (.int i :: .ref a :: S) M H ca sl :=
  y_zald hdg he hin (by rw [hx]; exact kk)
theorem y_alenx {a t n : Nat} {ty : FieldType} {x : vp_A} (hdg : decode (kCode K) pc = .ok (.arraylength, 1)) (ht : (eTy G)[t]? = some (G.2.2.2 t, ty)) (he : H a = some (.inl (G.2.2.2 t, x))) (hv : x.1 = n) (kk : Yx X Z G R K (pc + 1) l (.int (nI n) :: S) M H ca sl) : Yx X Z G R K pc l (.ref a :: S) M H ca sl :=
  y_alen hdg ht he rfl (by rw [hv]; exact kk)
end YNamed
