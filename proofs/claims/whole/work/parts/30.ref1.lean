/-- each of them another one -/
def mdI : List Nat → Prop
  | [] => True
  | a :: r => (∀ b ∈ r, a ≠ b) ∧ mdI r
def mdS (Z : mZ) (m nw od fd tp rd ah kp ka ln sz it mv : Nat) : Prop := ob Z 9 m ∧ rf Z 288 m = some nw ∧ rf Z 289 m = some od ∧ rf Z 293 m = some fd ∧ rf Z 294 m = some tp ∧ rf Z 297 m = some rd ∧ rf Z 298 m = some ah ∧ rf Z 300 m = some kp ∧ rf Z 301 m = some ka ∧ rf Z 303 m = some ln ∧ rf Z 304 m = some sz ∧ rf Z 305 m = some it ∧ rf Z 306 m = some mv ∧ ar Z 10 nw 194 ∧ ar Z 10 od 49 ∧ ar Z 10 fd 6 ∧ ar Z 10 tp 120 ∧ ar Z 10 rd 96 ∧ ar Z 10 ah 1552 ∧ ar Z 10 kp 194 ∧ ar Z 10 ka 1552 ∧ ar Z 10 ln 4 ∧ ar Z 10 sz 4 ∧ ar Z 11 it 96 ∧ ar Z 11 mv 24 ∧ mdI [nw, od, fd, tp, rd, ah, kp, ka, ln, sz] ∧ it ≠ mv
theorem mdS.o9 {Z : mZ} {m nw od fd tp rd ah kp ka ln sz it mv : Nat} (h : mdS Z m nw od fd tp rd ah kp ka ln sz it mv) : ob Z 9 m := h.1
theorem mdS.r288 {Z : mZ} {m nw od fd tp rd ah kp ka ln sz it mv : Nat} (h : mdS Z m nw od fd tp rd ah kp ka ln sz it mv) : rf Z 288 m = some nw := h.2.1
theorem mdS.r289 {Z : mZ} {m nw od fd tp rd ah kp ka ln sz it mv : Nat} (h : mdS Z m nw od fd tp rd ah kp ka ln sz it mv) : rf Z 289 m = some od := h.2.2.1
theorem mdS.r293 {Z : mZ} {m nw od fd tp rd ah kp ka ln sz it mv : Nat} (h : mdS Z m nw od fd tp rd ah kp ka ln sz it mv) : rf Z 293 m = some fd := h.2.2.2.1
theorem mdS.r294 {Z : mZ} {m nw od fd tp rd ah kp ka ln sz it mv : Nat} (h : mdS Z m nw od fd tp rd ah kp ka ln sz it mv) : rf Z 294 m = some tp := h.2.2.2.2.1
theorem mdS.r297 {Z : mZ} {m nw od fd tp rd ah kp ka ln sz it mv : Nat} (h : mdS Z m nw od fd tp rd ah kp ka ln sz it mv) : rf Z 297 m = some rd := h.2.2.2.2.2.1
theorem mdS.r298 {Z : mZ} {m nw od fd tp rd ah kp ka ln sz it mv : Nat} (h : mdS Z m nw od fd tp rd ah kp ka ln sz it mv) : rf Z 298 m = some ah := h.2.2.2.2.2.2.1
theorem mdS.r300 {Z : mZ} {m nw od fd tp rd ah kp ka ln sz it mv : Nat} (h : mdS Z m nw od fd tp rd ah kp ka ln sz it mv) : rf Z 300 m = some kp := h.2.2.2.2.2.2.2.1
theorem mdS.r301 {Z : mZ} {m nw od fd tp rd ah kp ka ln sz it mv : Nat} (h : mdS Z m nw od fd tp rd ah kp ka ln sz it mv) : rf Z 301 m = some ka := h.2.2.2.2.2.2.2.2.1
theorem mdS.r303 {Z : mZ} {m nw od fd tp rd ah kp ka ln sz it mv : Nat} (h : mdS Z m nw od fd tp rd ah kp ka ln sz it mv) : rf Z 303 m = some ln := h.2.2.2.2.2.2.2.2.2.1
theorem mdS.r304 {Z : mZ} {m nw od fd tp rd ah kp ka ln sz it mv : Nat} (h : mdS Z m nw od fd tp rd ah kp ka ln sz it mv) : rf Z 304 m = some sz := h.2.2.2.2.2.2.2.2.2.2.1
theorem mdS.r305 {Z : mZ} {m nw od fd tp rd ah kp ka ln sz it mv : Nat} (h : mdS Z m nw od fd tp rd ah kp ka ln sz it mv) : rf Z 305 m = some it := h.2.2.2.2.2.2.2.2.2.2.2.1
theorem mdS.r306 {Z : mZ} {m nw od fd tp rd ah kp ka ln sz it mv : Nat} (h : mdS Z m nw od fd tp rd ah kp ka ln sz it mv) : rf Z 306 m = some mv := h.2.2.2.2.2.2.2.2.2.2.2.2.1
theorem mdS.a_nw {Z : mZ} {m nw od fd tp rd ah kp ka ln sz it mv : Nat} (h : mdS Z m nw od fd tp rd ah kp ka ln sz it mv) : ar Z 10 nw 194 := h.2.2.2.2.2.2.2.2.2.2.2.2.2.1
theorem mdS.a_od {Z : mZ} {m nw od fd tp rd ah kp ka ln sz it mv : Nat} (h : mdS Z m nw od fd tp rd ah kp ka ln sz it mv) : ar Z 10 od 49 := h.2.2.2.2.2.2.2.2.2.2.2.2.2.2.1
theorem mdS.a_fd {Z : mZ} {m nw od fd tp rd ah kp ka ln sz it mv : Nat} (h : mdS Z m nw od fd tp rd ah kp ka ln sz it mv) : ar Z 10 fd 6 := h.2.2.2.2.2.2.2.2.2.2.2.2.2.2.2.1
theorem mdS.a_tp {Z : mZ} {m nw od fd tp rd ah kp ka ln sz it mv : Nat} (h : mdS Z m nw od fd tp rd ah kp ka ln sz it mv) : ar Z 10 tp 120 := h.2.2.2.2.2.2.2.2.2.2.2.2.2.2.2.2.1
theorem mdS.a_rd {Z : mZ} {m nw od fd tp rd ah kp ka ln sz it mv : Nat} (h : mdS Z m nw od fd tp rd ah kp ka ln sz it mv) : ar Z 10 rd 96 := h.2.2.2.2.2.2.2.2.2.2.2.2.2.2.2.2.2.1
theorem mdS.a_ah {Z : mZ} {m nw od fd tp rd ah kp ka ln sz it mv : Nat} (h : mdS Z m nw od fd tp rd ah kp ka ln sz it mv) : ar Z 10 ah 1552 := h.2.2.2.2.2.2.2.2.2.2.2.2.2.2.2.2.2.2.1
theorem mdS.a_kp {Z : mZ} {m nw od fd tp rd ah kp ka ln sz it mv : Nat} (h : mdS Z m nw od fd tp rd ah kp ka ln sz it mv) : ar Z 10 kp 194 := h.2.2.2.2.2.2.2.2.2.2.2.2.2.2.2.2.2.2.2.1
theorem mdS.a_ka {Z : mZ} {m nw od fd tp rd ah kp ka ln sz it mv : Nat} (h : mdS Z m nw od fd tp rd ah kp ka ln sz it mv) : ar Z 10 ka 1552 := h.2.2.2.2.2.2.2.2.2.2.2.2.2.2.2.2.2.2.2.2.1
theorem mdS.a_ln {Z : mZ} {m nw od fd tp rd ah kp ka ln sz it mv : Nat} (h : mdS Z m nw od fd tp rd ah kp ka ln sz it mv) : ar Z 10 ln 4 := h.2.2.2.2.2.2.2.2.2.2.2.2.2.2.2.2.2.2.2.2.2.1
theorem mdS.a_sz {Z : mZ} {m nw od fd tp rd ah kp ka ln sz it mv : Nat} (h : mdS Z m nw od fd tp rd ah kp ka ln sz it mv) : ar Z 10 sz 4 := h.2.2.2.2.2.2.2.2.2.2.2.2.2.2.2.2.2.2.2.2.2.2.1
theorem mdS.a_it {Z : mZ} {m nw od fd tp rd ah kp ka ln sz it mv : Nat} (h : mdS Z m nw od fd tp rd ah kp ka ln sz it mv) : ar Z 11 it 96 := h.2.2.2.2.2.2.2.2.2.2.2.2.2.2.2.2.2.2.2.2.2.2.2.1
theorem mdS.a_mv {Z : mZ} {m nw od fd tp rd ah kp ka ln sz it mv : Nat} (h : mdS Z m nw od fd tp rd ah kp ka ln sz it mv) : ar Z 11 mv 24 := h.2.2.2.2.2.2.2.2.2.2.2.2.2.2.2.2.2.2.2.2.2.2.2.2.1
theorem mdS.inj {Z : mZ} {m nw od fd tp rd ah kp ka ln sz it mv : Nat} (h : mdS Z m nw od fd tp rd ah kp ka ln sz it mv) : mdI [nw, od, fd, tp, rd, ah, kp, ka, ln, sz] := h.2.2.2.2.2.2.2.2.2.2.2.2.2.2.2.2.2.2.2.2.2.2.2.2.2.1
theorem mdS.nim {Z : mZ} {m nw od fd tp rd ah kp ka ln sz it mv : Nat} (h : mdS Z m nw od fd tp rd ah kp ka ln sz it mv) : it ≠ mv := h.2.2.2.2.2.2.2.2.2.2.2.2.2.2.2.2.2.2.2.2.2.2.2.2.2.2
theorem mdS.n_nw_od {Z : mZ} {m nw od fd tp rd ah kp ka ln sz it mv : Nat} (h : mdS Z m nw od fd tp rd ah kp ka ln sz it mv) : nw ≠ od := h.inj.1 od (by simp)
theorem mdS.n_od_nw {Z : mZ} {m nw od fd tp rd ah kp ka ln sz it mv : Nat} (h : mdS Z m nw od fd tp rd ah kp ka ln sz it mv) : od ≠ nw := (h.n_nw_od).symm
theorem mdS.n_nw_fd {Z : mZ} {m nw od fd tp rd ah kp ka ln sz it mv : Nat} (h : mdS Z m nw od fd tp rd ah kp ka ln sz it mv) : nw ≠ fd := h.inj.1 fd (by simp)
theorem mdS.n_fd_nw {Z : mZ} {m nw od fd tp rd ah kp ka ln sz it mv : Nat} (h : mdS Z m nw od fd tp rd ah kp ka ln sz it mv) : fd ≠ nw := (h.n_nw_fd).symm
theorem mdS.n_nw_tp {Z : mZ} {m nw od fd tp rd ah kp ka ln sz it mv : Nat} (h : mdS Z m nw od fd tp rd ah kp ka ln sz it mv) : nw ≠ tp := h.inj.1 tp (by simp)
theorem mdS.n_tp_nw {Z : mZ} {m nw od fd tp rd ah kp ka ln sz it mv : Nat} (h : mdS Z m nw od fd tp rd ah kp ka ln sz it mv) : tp ≠ nw := (h.n_nw_tp).symm
theorem mdS.n_nw_rd {Z : mZ} {m nw od fd tp rd ah kp ka ln sz it mv : Nat} (h : mdS Z m nw od fd tp rd ah kp ka ln sz it mv) : nw ≠ rd := h.inj.1 rd (by simp)
theorem mdS.n_rd_nw {Z : mZ} {m nw od fd tp rd ah kp ka ln sz it mv : Nat} (h : mdS Z m nw od fd tp rd ah kp ka ln sz it mv) : rd ≠ nw := (h.n_nw_rd).symm
theorem mdS.n_nw_ah {Z : mZ} {m nw od fd tp rd ah kp ka ln sz it mv : Nat} (h : mdS Z m nw od fd tp rd ah kp ka ln sz it mv) : nw ≠ ah := h.inj.1 ah (by simp)
theorem mdS.n_ah_nw {Z : mZ} {m nw od fd tp rd ah kp ka ln sz it mv : Nat} (h : mdS Z m nw od fd tp rd ah kp ka ln sz it mv) : ah ≠ nw := (h.n_nw_ah).symm
theorem mdS.n_nw_kp {Z : mZ} {m nw od fd tp rd ah kp ka ln sz it mv : Nat} (h : mdS Z m nw od fd tp rd ah kp ka ln sz it mv) : nw ≠ kp := h.inj.1 kp (by simp)
theorem mdS.n_kp_nw {Z : mZ} {m nw od fd tp rd ah kp ka ln sz it mv : Nat} (h : mdS Z m nw od fd tp rd ah kp ka ln sz it mv) : kp ≠ nw := (h.n_nw_kp).symm
theorem mdS.n_nw_ka {Z : mZ} {m nw od fd tp rd ah kp ka ln sz it mv : Nat} (h : mdS Z m nw od fd tp rd ah kp ka ln sz it mv) : nw ≠ ka := h.inj.1 ka (by simp)
theorem mdS.n_ka_nw {Z : mZ} {m nw od fd tp rd ah kp ka ln sz it mv : Nat} (h : mdS Z m nw od fd tp rd ah kp ka ln sz it mv) : ka ≠ nw := (h.n_nw_ka).symm
theorem mdS.n_nw_ln {Z : mZ} {m nw od fd tp rd ah kp ka ln sz it mv : Nat} (h : mdS Z m nw od fd tp rd ah kp ka ln sz it mv) : nw ≠ ln := h.inj.1 ln (by simp)
theorem mdS.n_ln_nw {Z : mZ} {m nw od fd tp rd ah kp ka ln sz it mv : Nat} (h : mdS Z m nw od fd tp rd ah kp ka ln sz it mv) : ln ≠ nw := (h.n_nw_ln).symm
theorem mdS.n_nw_sz {Z : mZ} {m nw od fd tp rd ah kp ka ln sz it mv : Nat} (h : mdS Z m nw od fd tp rd ah kp ka ln sz it mv) : nw ≠ sz := h.inj.1 sz (by simp)
theorem mdS.n_sz_nw {Z : mZ} {m nw od fd tp rd ah kp ka ln sz it mv : Nat} (h : mdS Z m nw od fd tp rd ah kp ka ln sz it mv) : sz ≠ nw := (h.n_nw_sz).symm
theorem mdS.n_od_fd {Z : mZ} {m nw od fd tp rd ah kp ka ln sz it mv : Nat} (h : mdS Z m nw od fd tp rd ah kp ka ln sz it mv) : od ≠ fd := h.inj.2.1 fd (by simp)
theorem mdS.n_fd_od {Z : mZ} {m nw od fd tp rd ah kp ka ln sz it mv : Nat} (h : mdS Z m nw od fd tp rd ah kp ka ln sz it mv) : fd ≠ od := (h.n_od_fd).symm
theorem mdS.n_od_tp {Z : mZ} {m nw od fd tp rd ah kp ka ln sz it mv : Nat} (h : mdS Z m nw od fd tp rd ah kp ka ln sz it mv) : od ≠ tp := h.inj.2.1 tp (by simp)
theorem mdS.n_tp_od {Z : mZ} {m nw od fd tp rd ah kp ka ln sz it mv : Nat} (h : mdS Z m nw od fd tp rd ah kp ka ln sz it mv) : tp ≠ od := (h.n_od_tp).symm
theorem mdS.n_od_rd {Z : mZ} {m nw od fd tp rd ah kp ka ln sz it mv : Nat} (h : mdS Z m nw od fd tp rd ah kp ka ln sz it mv) : od ≠ rd := h.inj.2.1 rd (by simp)
theorem mdS.n_rd_od {Z : mZ} {m nw od fd tp rd ah kp ka ln sz it mv : Nat} (h : mdS Z m nw od fd tp rd ah kp ka ln sz it mv) : rd ≠ od := (h.n_od_rd).symm
theorem mdS.n_od_ah {Z : mZ} {m nw od fd tp rd ah kp ka ln sz it mv : Nat} (h : mdS Z m nw od fd tp rd ah kp ka ln sz it mv) : od ≠ ah := h.inj.2.1 ah (by simp)
theorem mdS.n_ah_od {Z : mZ} {m nw od fd tp rd ah kp ka ln sz it mv : Nat} (h : mdS Z m nw od fd tp rd ah kp ka ln sz it mv) : ah ≠ od := (h.n_od_ah).symm
theorem mdS.n_od_kp {Z : mZ} {m nw od fd tp rd ah kp ka ln sz it mv : Nat} (h : mdS Z m nw od fd tp rd ah kp ka ln sz it mv) : od ≠ kp := h.inj.2.1 kp (by simp)
theorem mdS.n_kp_od {Z : mZ} {m nw od fd tp rd ah kp ka ln sz it mv : Nat} (h : mdS Z m nw od fd tp rd ah kp ka ln sz it mv) : kp ≠ od := (h.n_od_kp).symm
theorem mdS.n_od_ka {Z : mZ} {m nw od fd tp rd ah kp ka ln sz it mv : Nat} (h : mdS Z m nw od fd tp rd ah kp ka ln sz it mv) : od ≠ ka := h.inj.2.1 ka (by simp)
theorem mdS.n_ka_od {Z : mZ} {m nw od fd tp rd ah kp ka ln sz it mv : Nat} (h : mdS Z m nw od fd tp rd ah kp ka ln sz it mv) : ka ≠ od := (h.n_od_ka).symm
theorem mdS.n_od_ln {Z : mZ} {m nw od fd tp rd ah kp ka ln sz it mv : Nat} (h : mdS Z m nw od fd tp rd ah kp ka ln sz it mv) : od ≠ ln := h.inj.2.1 ln (by simp)
theorem mdS.n_ln_od {Z : mZ} {m nw od fd tp rd ah kp ka ln sz it mv : Nat} (h : mdS Z m nw od fd tp rd ah kp ka ln sz it mv) : ln ≠ od := (h.n_od_ln).symm
theorem mdS.n_od_sz {Z : mZ} {m nw od fd tp rd ah kp ka ln sz it mv : Nat} (h : mdS Z m nw od fd tp rd ah kp ka ln sz it mv) : od ≠ sz := h.inj.2.1 sz (by simp)
theorem mdS.n_sz_od {Z : mZ} {m nw od fd tp rd ah kp ka ln sz it mv : Nat} (h : mdS Z m nw od fd tp rd ah kp ka ln sz it mv) : sz ≠ od := (h.n_od_sz).symm
theorem mdS.n_fd_tp {Z : mZ} {m nw od fd tp rd ah kp ka ln sz it mv : Nat} (h : mdS Z m nw od fd tp rd ah kp ka ln sz it mv) : fd ≠ tp := h.inj.2.2.1 tp (by simp)
theorem mdS.n_tp_fd {Z : mZ} {m nw od fd tp rd ah kp ka ln sz it mv : Nat} (h : mdS Z m nw od fd tp rd ah kp ka ln sz it mv) : tp ≠ fd := (h.n_fd_tp).symm
theorem mdS.n_fd_rd {Z : mZ} {m nw od fd tp rd ah kp ka ln sz it mv : Nat} (h : mdS Z m nw od fd tp rd ah kp ka ln sz it mv) : fd ≠ rd := h.inj.2.2.1 rd (by simp)
theorem mdS.n_rd_fd {Z : mZ} {m nw od fd tp rd ah kp ka ln sz it mv : Nat} (h : mdS Z m nw od fd tp rd ah kp ka ln sz it mv) : rd ≠ fd := (h.n_fd_rd).symm
theorem mdS.n_fd_ah {Z : mZ} {m nw od fd tp rd ah kp ka ln sz it mv : Nat} (h : mdS Z m nw od fd tp rd ah kp ka ln sz it mv) : fd ≠ ah := h.inj.2.2.1 ah (by simp)
theorem mdS.n_ah_fd {Z : mZ} {m nw od fd tp rd ah kp ka ln sz it mv : Nat} (h : mdS Z m nw od fd tp rd ah kp ka ln sz it mv) : ah ≠ fd := (h.n_fd_ah).symm
theorem mdS.n_fd_kp {Z : mZ} {m nw od fd tp rd ah kp ka ln sz it mv : Nat} (h : mdS Z m nw od fd tp rd ah kp ka ln sz it mv) : fd ≠ kp := h.inj.2.2.1 kp (by simp)
theorem mdS.n_kp_fd {Z : mZ} {m nw od fd tp rd ah kp ka ln sz it mv : Nat} (h : mdS Z m nw od fd tp rd ah kp ka ln sz it mv) : kp ≠ fd := (h.n_fd_kp).symm
theorem mdS.n_fd_ka {Z : mZ} {m nw od fd tp rd ah kp ka ln sz it mv : Nat} (h : mdS Z m nw od fd tp rd ah kp ka ln sz it mv) : fd ≠ ka := h.inj.2.2.1 ka (by simp)
theorem mdS.n_ka_fd {Z : mZ} {m nw od fd tp rd ah kp ka ln sz it mv : Nat} (h : mdS Z m nw od fd tp rd ah kp ka ln sz it mv) : ka ≠ fd := (h.n_fd_ka).symm
theorem mdS.n_fd_ln {Z : mZ} {m nw od fd tp rd ah kp ka ln sz it mv : Nat} (h : mdS Z m nw od fd tp rd ah kp ka ln sz it mv) : fd ≠ ln := h.inj.2.2.1 ln (by simp)
theorem mdS.n_ln_fd {Z : mZ} {m nw od fd tp rd ah kp ka ln sz it mv : Nat} (h : mdS Z m nw od fd tp rd ah kp ka ln sz it mv) : ln ≠ fd := (h.n_fd_ln).symm
theorem mdS.n_fd_sz {Z : mZ} {m nw od fd tp rd ah kp ka ln sz it mv : Nat} (h : mdS Z m nw od fd tp rd ah kp ka ln sz it mv) : fd ≠ sz := h.inj.2.2.1 sz (by simp)
theorem mdS.n_sz_fd {Z : mZ} {m nw od fd tp rd ah kp ka ln sz it mv : Nat} (h : mdS Z m nw od fd tp rd ah kp ka ln sz it mv) : sz ≠ fd := (h.n_fd_sz).symm
theorem mdS.n_tp_rd {Z : mZ} {m nw od fd tp rd ah kp ka ln sz it mv : Nat} (h : mdS Z m nw od fd tp rd ah kp ka ln sz it mv) : tp ≠ rd := h.inj.2.2.2.1 rd (by simp)
theorem mdS.n_rd_tp {Z : mZ} {m nw od fd tp rd ah kp ka ln sz it mv : Nat} (h : mdS Z m nw od fd tp rd ah kp ka ln sz it mv) : rd ≠ tp := (h.n_tp_rd).symm
theorem mdS.n_tp_ah {Z : mZ} {m nw od fd tp rd ah kp ka ln sz it mv : Nat} (h : mdS Z m nw od fd tp rd ah kp ka ln sz it mv) : tp ≠ ah := h.inj.2.2.2.1 ah (by simp)
theorem mdS.n_ah_tp {Z : mZ} {m nw od fd tp rd ah kp ka ln sz it mv : Nat} (h : mdS Z m nw od fd tp rd ah kp ka ln sz it mv) : ah ≠ tp := (h.n_tp_ah).symm
theorem mdS.n_tp_kp {Z : mZ} {m nw od fd tp rd ah kp ka ln sz it mv : Nat} (h : mdS Z m nw od fd tp rd ah kp ka ln sz it mv) : tp ≠ kp := h.inj.2.2.2.1 kp (by simp)
theorem mdS.n_kp_tp {Z : mZ} {m nw od fd tp rd ah kp ka ln sz it mv : Nat} (h : mdS Z m nw od fd tp rd ah kp ka ln sz it mv) : kp ≠ tp := (h.n_tp_kp).symm
theorem mdS.n_tp_ka {Z : mZ} {m nw od fd tp rd ah kp ka ln sz it mv : Nat} (h : mdS Z m nw od fd tp rd ah kp ka ln sz it mv) : tp ≠ ka := h.inj.2.2.2.1 ka (by simp)
theorem mdS.n_ka_tp {Z : mZ} {m nw od fd tp rd ah kp ka ln sz it mv : Nat} (h : mdS Z m nw od fd tp rd ah kp ka ln sz it mv) : ka ≠ tp := (h.n_tp_ka).symm
theorem mdS.n_tp_ln {Z : mZ} {m nw od fd tp rd ah kp ka ln sz it mv : Nat} (h : mdS Z m nw od fd tp rd ah kp ka ln sz it mv) : tp ≠ ln := h.inj.2.2.2.1 ln (by simp)
theorem mdS.n_ln_tp {Z : mZ} {m nw od fd tp rd ah kp ka ln sz it mv : Nat} (h : mdS Z m nw od fd tp rd ah kp ka ln sz it mv) : ln ≠ tp := (h.n_tp_ln).symm
theorem mdS.n_tp_sz {Z : mZ} {m nw od fd tp rd ah kp ka ln sz it mv : Nat} (h : mdS Z m nw od fd tp rd ah kp ka ln sz it mv) : tp ≠ sz := h.inj.2.2.2.1 sz (by simp)
theorem mdS.n_sz_tp {Z : mZ} {m nw od fd tp rd ah kp ka ln sz it mv : Nat} (h : mdS Z m nw od fd tp rd ah kp ka ln sz it mv) : sz ≠ tp := (h.n_tp_sz).symm
theorem mdS.n_rd_ah {Z : mZ} {m nw od fd tp rd ah kp ka ln sz it mv : Nat} (h : mdS Z m nw od fd tp rd ah kp ka ln sz it mv) : rd ≠ ah := h.inj.2.2.2.2.1 ah (by simp)
theorem mdS.n_ah_rd {Z : mZ} {m nw od fd tp rd ah kp ka ln sz it mv : Nat} (h : mdS Z m nw od fd tp rd ah kp ka ln sz it mv) : ah ≠ rd := (h.n_rd_ah).symm
theorem mdS.n_rd_kp {Z : mZ} {m nw od fd tp rd ah kp ka ln sz it mv : Nat} (h : mdS Z m nw od fd tp rd ah kp ka ln sz it mv) : rd ≠ kp := h.inj.2.2.2.2.1 kp (by simp)
theorem mdS.n_kp_rd {Z : mZ} {m nw od fd tp rd ah kp ka ln sz it mv : Nat} (h : mdS Z m nw od fd tp rd ah kp ka ln sz it mv) : kp ≠ rd := (h.n_rd_kp).symm
theorem mdS.n_rd_ka {Z : mZ} {m nw od fd tp rd ah kp ka ln sz it mv : Nat} (h : mdS Z m nw od fd tp rd ah kp ka ln sz it mv) : rd ≠ ka := h.inj.2.2.2.2.1 ka (by simp)
theorem mdS.n_ka_rd {Z : mZ} {m nw od fd tp rd ah kp ka ln sz it mv : Nat} (h : mdS Z m nw od fd tp rd ah kp ka ln sz it mv) : ka ≠ rd := (h.n_rd_ka).symm
theorem mdS.n_rd_ln {Z : mZ} {m nw od fd tp rd ah kp ka ln sz it mv : Nat} (h : mdS Z m nw od fd tp rd ah kp ka ln sz it mv) : rd ≠ ln := h.inj.2.2.2.2.1 ln (by simp)
theorem mdS.n_ln_rd {Z : mZ} {m nw od fd tp rd ah kp ka ln sz it mv : Nat} (h : mdS Z m nw od fd tp rd ah kp ka ln sz it mv) : ln ≠ rd := (h.n_rd_ln).symm
theorem mdS.n_rd_sz {Z : mZ} {m nw od fd tp rd ah kp ka ln sz it mv : Nat} (h : mdS Z m nw od fd tp rd ah kp ka ln sz it mv) : rd ≠ sz := h.inj.2.2.2.2.1 sz (by simp)
theorem mdS.n_sz_rd {Z : mZ} {m nw od fd tp rd ah kp ka ln sz it mv : Nat} (h : mdS Z m nw od fd tp rd ah kp ka ln sz it mv) : sz ≠ rd := (h.n_rd_sz).symm
theorem mdS.n_ah_kp {Z : mZ} {m nw od fd tp rd ah kp ka ln sz it mv : Nat} (h : mdS Z m nw od fd tp rd ah kp ka ln sz it mv) : ah ≠ kp := h.inj.2.2.2.2.2.1 kp (by simp)
theorem mdS.n_kp_ah {Z : mZ} {m nw od fd tp rd ah kp ka ln sz it mv : Nat} (h : mdS Z m nw od fd tp rd ah kp ka ln sz it mv) : kp ≠ ah := (h.n_ah_kp).symm
theorem mdS.n_ah_ka {Z : mZ} {m nw od fd tp rd ah kp ka ln sz it mv : Nat} (h : mdS Z m nw od fd tp rd ah kp ka ln sz it mv) : ah ≠ ka := h.inj.2.2.2.2.2.1 ka (by simp)
theorem mdS.n_ka_ah {Z : mZ} {m nw od fd tp rd ah kp ka ln sz it mv : Nat} (h : mdS Z m nw od fd tp rd ah kp ka ln sz it mv) : ka ≠ ah := (h.n_ah_ka).symm
theorem mdS.n_ah_ln {Z : mZ} {m nw od fd tp rd ah kp ka ln sz it mv : Nat} (h : mdS Z m nw od fd tp rd ah kp ka ln sz it mv) : ah ≠ ln := h.inj.2.2.2.2.2.1 ln (by simp)
theorem mdS.n_ln_ah {Z : mZ} {m nw od fd tp rd ah kp ka ln sz it mv : Nat} (h : mdS Z m nw od fd tp rd ah kp ka ln sz it mv) : ln ≠ ah := (h.n_ah_ln).symm
theorem mdS.n_ah_sz {Z : mZ} {m nw od fd tp rd ah kp ka ln sz it mv : Nat} (h : mdS Z m nw od fd tp rd ah kp ka ln sz it mv) : ah ≠ sz := h.inj.2.2.2.2.2.1 sz (by simp)
theorem mdS.n_sz_ah {Z : mZ} {m nw od fd tp rd ah kp ka ln sz it mv : Nat} (h : mdS Z m nw od fd tp rd ah kp ka ln sz it mv) : sz ≠ ah := (h.n_ah_sz).symm
theorem mdS.n_kp_ka {Z : mZ} {m nw od fd tp rd ah kp ka ln sz it mv : Nat} (h : mdS Z m nw od fd tp rd ah kp ka ln sz it mv) : kp ≠ ka := h.inj.2.2.2.2.2.2.1 ka (by simp)
theorem mdS.n_ka_kp {Z : mZ} {m nw od fd tp rd ah kp ka ln sz it mv : Nat} (h : mdS Z m nw od fd tp rd ah kp ka ln sz it mv) : ka ≠ kp := (h.n_kp_ka).symm
theorem mdS.n_kp_ln {Z : mZ} {m nw od fd tp rd ah kp ka ln sz it mv : Nat} (h : mdS Z m nw od fd tp rd ah kp ka ln sz it mv) : kp ≠ ln := h.inj.2.2.2.2.2.2.1 ln (by simp)
theorem mdS.n_ln_kp {Z : mZ} {m nw od fd tp rd ah kp ka ln sz it mv : Nat} (h : mdS Z m nw od fd tp rd ah kp ka ln sz it mv) : ln ≠ kp := (h.n_kp_ln).symm
theorem mdS.n_kp_sz {Z : mZ} {m nw od fd tp rd ah kp ka ln sz it mv : Nat} (h : mdS Z m nw od fd tp rd ah kp ka ln sz it mv) : kp ≠ sz := h.inj.2.2.2.2.2.2.1 sz (by simp)
theorem mdS.n_sz_kp {Z : mZ} {m nw od fd tp rd ah kp ka ln sz it mv : Nat} (h : mdS Z m nw od fd tp rd ah kp ka ln sz it mv) : sz ≠ kp := (h.n_kp_sz).symm
theorem mdS.n_ka_ln {Z : mZ} {m nw od fd tp rd ah kp ka ln sz it mv : Nat} (h : mdS Z m nw od fd tp rd ah kp ka ln sz it mv) : ka ≠ ln := h.inj.2.2.2.2.2.2.2.1 ln (by simp)
theorem mdS.n_ln_ka {Z : mZ} {m nw od fd tp rd ah kp ka ln sz it mv : Nat} (h : mdS Z m nw od fd tp rd ah kp ka ln sz it mv) : ln ≠ ka := (h.n_ka_ln).symm
theorem mdS.n_ka_sz {Z : mZ} {m nw od fd tp rd ah kp ka ln sz it mv : Nat} (h : mdS Z m nw od fd tp rd ah kp ka ln sz it mv) : ka ≠ sz := h.inj.2.2.2.2.2.2.2.1 sz (by simp)
theorem mdS.n_sz_ka {Z : mZ} {m nw od fd tp rd ah kp ka ln sz it mv : Nat} (h : mdS Z m nw od fd tp rd ah kp ka ln sz it mv) : sz ≠ ka := (h.n_ka_sz).symm
theorem mdS.n_ln_sz {Z : mZ} {m nw od fd tp rd ah kp ka ln sz it mv : Nat} (h : mdS Z m nw od fd tp rd ah kp ka ln sz it mv) : ln ≠ sz := h.inj.2.2.2.2.2.2.2.2.1 sz (by simp)
theorem mdS.n_sz_ln {Z : mZ} {m nw od fd tp rd ah kp ka ln sz it mv : Nat} (h : mdS Z m nw od fd tp rd ah kp ka ln sz it mv) : sz ≠ ln := (h.n_ln_sz).symm
abbrev lthn (v lo hi : Int64) : Prop := lo ≤ v ∧ v ≤ hi
theorem lgc_lt (x y : Int64) : lg_cmp x y < 0 ↔ x < y := by
  unfold lg_cmp
  split
  · next h => exact ⟨fun q => absurd q (by decide), fun q => by have h1 := Int64.lt_iff_toInt_lt.mp h; have h2 := Int64.lt_iff_toInt_lt.mp q; omega⟩
  · next h =>
    split
    · next h2 => subst h2; exact ⟨fun q => absurd q (by decide), fun q => absurd q h⟩
    · next h2 => exact ⟨fun _ => by
        have h : ¬ y < x := h
        rw [Int64.lt_iff_toInt_lt]; rw [Int64.lt_iff_toInt_lt] at h
        have h3 : x.toInt ≠ y.toInt := fun q => h2 (Int64.toInt_inj.mp q)
        omega, fun _ => by decide⟩
theorem lgc_gt (x y : Int64) : 0 < lg_cmp x y ↔ y < x := by
  unfold lg_cmp
  split
  · next h => exact ⟨fun _ => h, fun _ => by decide⟩
  · next h =>
    split
    · exact ⟨fun q => absurd q (by decide), fun q => absurd q h⟩
    · exact ⟨fun q => absurd q (by decide), fun q => absurd q h⟩
theorem lgc_eq (x y : Int64) : lg_cmp x y = 0 ↔ x = y := by
  unfold lg_cmp
  split
  · next h => exact ⟨fun q => absurd q (by decide), fun q => by subst q; have h1 := Int64.lt_iff_toInt_lt.mp h; omega⟩
  · next h =>
    split
    · next h2 => exact ⟨fun _ => h2, fun _ => rfl⟩
    · next h2 => exact ⟨fun q => absurd q (by decide), fun q => absurd q h2⟩
theorem mB_cong {p q : Prop} [Decidable p] [Decidable q] (h : p ↔ q) : mB p = mB q := by
  unfold mB
  by_cases hp : p
  · rw [if_pos hp, if_pos (h.mp hp)]
  · rw [if_neg hp, if_neg (fun z => hp (h.mpr z))]
theorem i2l_le (a b : Int32) : a.toInt64 ≤ b.toInt64 ↔ a ≤ b := by
  rw [Int64.le_iff_toInt_le, Int32.le_iff_toInt_le, Int32.toInt_toInt64, Int32.toInt_toInt64]
theorem inI (v lo hi : Int32) {l h : Int64} (e1 : lo.toInt64 = l) (e2 : hi.toInt64 = h) : mB (lthn v.toInt64 l h) = mB (wthn v lo hi) := by
  subst e1; subst e2
  exact mB_cong ⟨fun q => ⟨(i2l_le _ _).mp q.1, (i2l_le _ _).mp q.2⟩, fun q => ⟨(i2l_le _ _).mpr q.1, (i2l_le _ _).mpr q.2⟩⟩
theorem neg_sub0 (v : Int32) : -v = 0 - v := by rw [Int32.zero_sub]
abbrev redP (i : Int32) : Prop := i < 4 ∨ 11 < i ∨ mRem i 4 = 0 ∨ mRem i 4 = 3
def rdcI (k far i : Int32) : Int32 := if k = 1 then far * far else if k = 2 then (if redP i then 2 * far else far) else if k = 4 then (if far ≤ 2 then far * far else 9) else far
def rcI (k : Int32) (fo fn : Nat → Int32) (b m i : Int32) : Int32 := rdcI k (mAbs (dfI fo fn b m i)) i
def rcC (k : Int32) (fo fn : Nat → Int32) (b m : Int32) : Int32 := accL (rcI k fo fn b m) 16 0 (atoI k m)
theorem col_c (b : Int32) : 4 * mRem b 3 = colI b := Int32.mul_comm _ _
theorem row_c (b : Int32) : 4 * (b / 3) = rowI b := Int32.mul_comm _ _
def rbL (o : Nat → Int32) (c : Int32 → Int32) : Nat → Nat → Int32 → Int32 → Int32
  | 0, _, be, _ => be
  | n + 1, t, be, le => if c (o t) < le then rbL o c n (t + 1) (o t) (c (o t)) else rbL o c n (t + 1) be le
/-- the best move by a kind, as the reference finds it -/
def rbE (o : Nat → Int32) (k : Int32) (fo fn : Nat → Int32) (b : Int32) : Int32 := rbL o (rcC k fo fn b) 48 1 (o 0) (rcC k fo fn b (o 0))
def smoI (fo fn : Nat → Int32) (b m : Int32) : Int32 := mAbs (accL (dfI fo fn b m) 16 0 0)
abbrev sumP (k : Int32) : Prop := k = 0 ∨ k = 2 ∨ k = 3
theorem pix0 (f : Nat → Int32) (c r : Int32) : pix (fun k => f (0 + k)) c r = pix f c r := by simp only [pix, Nat.zero_add]
def trD (d : mD) (m : Nat) (lk ou sk : Int32) : mD := sI (sI (sI d 290 m lk) 291 m ou) 292 m sk
theorem tr_290 (d : mD) (m : Nat) (lk ou sk v : Int32) : sI (trD d m lk ou sk) 290 m v = trD d m v ou sk := by
  refine mD_ext (fun f a => ?_) (fun _ => rfl) (fun _ => rfl) (fun _ => rfl)
  simp only [trD, gI_sI]
  by_cases h : a = m <;> by_cases h1 : f = 290 <;> by_cases h2 : f = 291 <;> by_cases h3 : f = 292 <;> simp_all
theorem tr_291 (d : mD) (m : Nat) (lk ou sk v : Int32) : sI (trD d m lk ou sk) 291 m v = trD d m lk v sk := by
  refine mD_ext (fun f a => ?_) (fun _ => rfl) (fun _ => rfl) (fun _ => rfl)
  simp only [trD, gI_sI]
  by_cases h : a = m <;> by_cases h1 : f = 290 <;> by_cases h2 : f = 291 <;> by_cases h3 : f = 292 <;> simp_all
theorem tr_292 (d : mD) (m : Nat) (lk ou sk v : Int32) : sI (trD d m lk ou sk) 292 m v = trD d m lk ou v := sI_sI _ _ _ _ _
theorem gtr_290 (d : mD) (m : Nat) (lk ou sk : Int32) : gI (trD d m lk ou sk) 290 m = lk := by simp [trD, gI_sI]
theorem gtr_291 (d : mD) (m : Nat) (lk ou sk : Int32) : gI (trD d m lk ou sk) 291 m = ou := by simp [trD, gI_sI]
theorem gtr_292 (d : mD) (m : Nat) (lk ou sk : Int32) : gI (trD d m lk ou sk) 292 m = sk := by simp [trD, gI_sI]
theorem gtr_ne (d : mD) (m : Nat) (lk ou sk : Int32) {f : Nat} (b : Nat) (h : f < 290 ∨ 292 < f) : gI (trD d m lk ou sk) f b = gI d f b := by
  simp only [trD]; rw [gI_ne (by omega), gI_ne (by omega), gI_ne (by omega)]
theorem gA_tr (d : mD) (m : Nat) (lk ou sk : Int32) (b : Nat) : gA (trD d m lk ou sk) b = gA d b := rfl
/-- as the reference tries moves: the least, dots looked at, moves left out, dots looked at if those are -/
def trL (o : Nat → Int32) (k : Int32) (fo fn : Nat → Int32) (b : Int32) : Nat → Nat → Int32 → Int32 → Int32 → Int32 → Int32 × Int32 × Int32
  | 0, _, _, lk, ou, sk => (lk, ou, sk)
  | n + 1, t, le, lk, ou, sk => trL o k fo fn b n (t + 1) (if (cbL (rcI k fo fn b (o t)) le 16 0 (atoI k (o t)) 0).1 < le then (cbL (rcI k fo fn b (o t)) le 16 0 (atoI k (o t)) 0).1 else le) (lk + (cbL (rcI k fo fn b (o t)) le 16 0 (atoI k (o t)) 0).2) (ou + mB (sumP k ∧ le ≤ smoI fo fn b (o t))) (sk + if sumP k ∧ le ≤ smoI fo fn b (o t) then 0 else (cbL (rcI k fo fn b (o t)) le 16 0 (atoI k (o t)) 0).2)
def trT (d : mD) (m : Nat) (q : Int32 × Int32 × Int32) : mD := trD d m q.1 q.2.1 q.2.2
def trQ (o : Nat → Int32) (k : Int32) (fo fn : Nat → Int32) (b : Int32) : Int32 × Int32 × Int32 := trL o k fo fn b 48 1 (rcC k fo fn b (o 0)) 16 0 16
theorem c_X9_in {l : Launch} {G : mG} {Z : mZ} {d : mD} {v lo hi : Int64} : CtI l G yX9_in cX9_in 6 .boolean 0 0 [.long v, .long lo, .long hi] Z d (mB (lthn v lo hi)) d := by
  refine enterI RX9 0 [some (.long v), none, some (.long lo), none, some (.long hi), none] (by decide) rfl (narB _) rfl rfl (fun X hR => ?_)
  refine ll0 (pc := 0) dX9_in_0 ?_
  refine ll2 (pc := 1) dX9_in_1 ?_
  refine g_lcmp (pc := 2) dX9_in_2 ?_
  refine g_iflt 17 (pc := 3) dX9_in_3 (by decide) (fun c3 => ?_) (fun c3 => ?_)
  · skip
    rw [lgc_lt] at c3
    refine g_iconst (pc := 17) dX9_in_17 kc0 ?_
    exact retI (pc := 18) hR dX9_in_18 (by simp [mB, lthn, ← Int64.not_lt, c3]) (rfl)
  · skip
    rw [lgc_lt] at c3
    refine ll0 (pc := 6) dX9_in_6 ?_
    refine ll4 (pc := 7) dX9_in_7 ?_
    refine g_lcmp (pc := 9) dX9_in_9 ?_
    refine g_ifgt 17 (pc := 10) dX9_in_10 (by decide) (fun c10 => ?_) (fun c10 => ?_)
    · skip
      rw [lgc_gt] at c10
      refine g_iconst (pc := 17) dX9_in_17 kc0 ?_
      exact retI (pc := 18) hR dX9_in_18 (by simp [mB, lthn, ← Int64.not_lt, c3, c10]) (rfl)
    · skip
      rw [lgc_gt] at c10
      refine g_iconst (pc := 13) dX9_in_13 kc1 ?_
      refine g_goto 18 (pc := 14) dX9_in_14 (by decide) ?_
      exact retI (pc := 18) hR dX9_in_18 (by simp [mB, lthn, ← Int64.not_lt, c3, c10]) (rfl)
theorem c_X9_sized {l : Launch} {G : mG} {Z : mZ} {d : mD} {v : Int32} : CtI l G yX9_sized cX9_sized 1 .int 0 0 [.int v] Z d (mAbs v) d := by
  refine enterI RX9 0 [some (.int v)] (by decide) rfl (rfl) rfl rfl (fun X hR => ?_)
  refine il0 (pc := 0) dX9_sized_0 ?_
  refine g_ifge 9 (pc := 1) dX9_sized_1 (by decide) (fun c1 => ?_) (fun c1 => ?_)
  · skip
    refine il0 (pc := 9) dX9_sized_9 ?_
    exact retI (pc := 10) hR dX9_sized_10 (by simp [mAbs, c1]) (rfl)
  · skip
    refine il0 (pc := 4) dX9_sized_4 ?_
    refine g_ineg (pc := 5) dX9_sized_5 ?_
    rw [neg_sub0]
    refine g_goto 10 (pc := 6) dX9_sized_6 (by decide) ?_
    exact retI (pc := 10) hR dX9_sized_10 (by simp [mAbs, c1]) (rfl)
theorem c_X9_xOf {l : Launch} {G : mG} {Z : mZ} {d : mD} {v : Int32} : CtI l G yX9_xOf cX9_xOf 1 .int 0 0 [.int v] Z d (xOfI v) d := by
  refine enterI RX9 0 [some (.int v)] (by decide) rfl (rfl) rfl rfl (fun X hR => ?_)
  refine il0 (pc := 0) dX9_xOf_0 ?_
  refine g_bipush (pc := 1) dX9_xOf_1 kb7 ?_
  refine g_irem (pc := 3) dX9_xOf_3 (by decide) ?_
  refine g_iconst (pc := 4) dX9_xOf_4 kc3 ?_
  refine g_isub (pc := 5) dX9_xOf_5 ?_
  exact retI (pc := 6) hR dX9_xOf_6 (rfl) (rfl)
theorem c_X9_yOf {l : Launch} {G : mG} {Z : mZ} {d : mD} {v : Int32} : CtI l G yX9_yOf cX9_yOf 1 .int 0 0 [.int v] Z d (yOfI v) d := by
  refine enterI RX9 0 [some (.int v)] (by decide) rfl (rfl) rfl rfl (fun X hR => ?_)
  refine il0 (pc := 0) dX9_yOf_0 ?_
  refine g_bipush (pc := 1) dX9_yOf_1 kb7 ?_
  refine g_idiv (pc := 3) dX9_yOf_3 (by decide) ?_
  refine g_iconst (pc := 4) dX9_yOf_4 kc3 ?_
  refine g_isub (pc := 5) dX9_yOf_5 ?_
  exact retI (pc := 6) hR dX9_yOf_6 (rfl) (rfl)
theorem c_X9_farOf {l : Launch} {G : mG} {Z : mZ} {d : mD} {v : Int32} : CtI l G yX9_farOf cX9_farOf 1 .int 1 20 [.int v] Z d (farI v) d := by
  refine enterI RX9 0 [some (.int v)] (by decide) rfl (rfl) rfl rfl (fun X hR => ?_)
  refine il0 (pc := 0) dX9_farOf_0 ?_
  refine cl_X9_55 (pc := 1) (c_X9_xOf) (by decide) ⟨Nat.zero_le _, Nat.zero_le _⟩ (Nat.le_of_ble_eq_true rfl) dX9_farOf_1 ?_
  refine cl_X9_58 (pc := 4) (c_X9_sized) (by decide) ⟨Nat.zero_le _, Nat.zero_le _⟩ (Nat.le_of_ble_eq_true rfl) dX9_farOf_4 ?_
  refine il0 (pc := 7) dX9_farOf_7 ?_
  refine cl_X9_61 (pc := 8) (c_X9_yOf) (by decide) ⟨Nat.zero_le _, Nat.zero_le _⟩ (Nat.le_of_ble_eq_true rfl) dX9_farOf_8 ?_
  refine cl_X9_58 (pc := 11) (c_X9_sized) (by decide) ⟨Nat.zero_le _, Nat.zero_le _⟩ (Nat.le_of_ble_eq_true rfl) dX9_farOf_11 ?_
  refine g_iadd (pc := 14) dX9_farOf_14 ?_
  exact retI (pc := 15) hR dX9_farOf_15 (rfl) (rfl)
theorem c_X9_within {l : Launch} {G : mG} {Z : mZ} {d : mD} {v : Int32} {w : Nat} (hw : w < 2 ^ 31) : CtI l G yX9_within cX9_within 2 .int 0 0 [.int v, .int (nI w)] Z d (nI (clN v w)) d := by
  refine enterI RX9 0 [some (.int v), some (.int (nI w))] (by decide) rfl (rfl) rfl rfl (fun X hR => ?_)
  refine il0 (pc := 0) dX9_within_0 ?_
  refine g_ifge 8 (pc := 1) dX9_within_1 (by decide) (fun c1 => ?_) (fun c1 => ?_)
  · skip
    refine il0 (pc := 8) dX9_within_8 ?_
    refine il1 (pc := 9) dX9_within_9 ?_
    refine g_icmple 17 (pc := 10) dX9_within_10 (by decide) (fun c10 => ?_) (fun c10 => ?_)
    · skip
      refine il0 (pc := 17) dX9_within_17 ?_
      exact retI (pc := 18) hR dX9_within_18 (by rw [nI_clN v hw]; simp only [← Int32.not_le]; simp [c1, c10]) (rfl)
    · skip
      refine il1 (pc := 13) dX9_within_13 ?_
      refine g_goto 18 (pc := 14) dX9_within_14 (by decide) ?_
      exact retI (pc := 18) hR dX9_within_18 (by rw [nI_clN v hw]; simp only [← Int32.not_le]; simp [c1, c10]) (rfl)
  · skip
    refine g_iconst (pc := 4) dX9_within_4 kc0 ?_
    refine g_goto 18 (pc := 5) dX9_within_5 (by decide) ?_
    exact retI (pc := 18) hR dX9_within_18 (by rw [nI_clN v hw]; simp only [← Int32.not_le]; simp [c1]) (rfl)
theorem c_X9_isBlock {l : Launch} {G : mG} {Z : mZ} {d : mD} {v : Int32} : CtI l G yX9_isBlock cX9_isBlock 1 .boolean 1 25 [.int v] Z d (mB (wthn v 0 5)) d := by
  refine enterI RX9 0 [some (.int v)] (by decide) rfl (narB _) rfl rfl (fun X hR => ?_)
  refine il0 (pc := 0) dX9_isBlock_0 ?_
  refine g_i2l (pc := 1) dX9_isBlock_1 ?_
  refine g_lconst (pc := 2) dX9_isBlock_2 kl0 ?_
  refine g_ldc2 (pc := 3) dX9_isBlock_3 wk_X9_68 ?_
  refine cl_X9_70 (pc := 6) (c_X9_in) (by decide) ⟨Nat.zero_le _, Nat.zero_le _⟩ (Nat.le_of_ble_eq_true rfl) dX9_isBlock_6 ?_
  rw [inI v 0 5 (by decide) (by decide)]
  exact retI (pc := 9) hR dX9_isBlock_9 (rfl) (rfl)
theorem c_X9_isMove {l : Launch} {G : mG} {Z : mZ} {d : mD} {v : Int64} : CtI l G yX9_isMove cX9_isMove 2 .boolean 1 25 [.long v] Z d (mB (lthn v 0 48)) d := by
  refine enterI RX9 0 [some (.long v), none] (by decide) rfl (narB _) rfl rfl (fun X hR => ?_)
  refine ll0 (pc := 0) dX9_isMove_0 ?_
  refine g_lconst (pc := 1) dX9_isMove_1 kl0 ?_
  refine g_ldc2 (pc := 2) dX9_isMove_2 wk_X9_74 ?_
  refine cl_X9_70 (pc := 5) (c_X9_in) (by decide) ⟨Nat.zero_le _, Nat.zero_le _⟩ (Nat.le_of_ble_eq_true rfl) dX9_isMove_5 ?_
  exact retI (pc := 8) hR dX9_isMove_8 (rfl) (rfl)
theorem c_X9_atOnce {l : Launch} {G : mG} {Z : mZ} {d : mD} {k v : Int32} : CtI l G yX9_atOnce cX9_atOnce 2 .int 2 40 [.int k, .int v] Z d (atoI k v) d := by
  refine enterI RX9 0 [some (.int k), some (.int v)] (by decide) rfl (rfl) rfl rfl (fun X hR => ?_)
  refine il0 (pc := 0) dX9_atOnce_0 ?_
  refine g_iconst (pc := 1) dX9_atOnce_1 kc3 ?_
  refine g_icmpne 14 (pc := 2) dX9_atOnce_2 (by decide) (fun c2 => ?_) (fun c2 => ?_)
  · skip
    refine g_iconst (pc := 14) dX9_atOnce_14 kc0 ?_
    exact retI (pc := 15) hR dX9_atOnce_15 (by simp [atoI, c2]) (rfl)
  · skip
    refine g_iconst (pc := 5) dX9_atOnce_5 kc2 ?_
    refine il1 (pc := 6) dX9_atOnce_6 ?_
    refine cl_X9_51 (pc := 7) (c_X9_farOf) (by decide) ⟨Nat.zero_le _, Nat.zero_le _⟩ (Nat.le_of_ble_eq_true rfl) dX9_atOnce_7 ?_
    refine g_imul (pc := 10) dX9_atOnce_10 ?_
    refine g_goto 15 (pc := 11) dX9_atOnce_11 (by decide) ?_
    exact retI (pc := 15) hR dX9_atOnce_15 (by simp [atoI, c2]) (rfl)
theorem c_X9_dotAt {l : Launch} {G : mG} {Z : mZ} {d : mD} {m nw od fd tp rd ah kp ka ln sz it mv : Nat} {pb : Nat} {c r : Int32} (hm : mdS Z m nw od fd tp rd ah kp ka ln sz it mv) (hpb : pb ≤ 96) : CtI l G yX9_dotAt cX9_dotAt 4 .int 1 21 [.ref m, .int (nI pb), .int c, .int r] Z d (pix (fun k => gA d nw (pb + k)) c r) d := by
  have hlt := pix_lt c r
  refine enterI RX9 0 [some (.ref m), some (.int (nI pb)), some (.int c), some (.int r)] (by decide) rfl (rfl) rfl rfl (fun X hR => ?_)
  refine al0 (pc := 0) dX9_dotAt_0 ?_
  refine gf_X9_7 (pc := 1) hm.o9 hm.r288 dX9_dotAt_1 ?_
  refine il1 (pc := 4) dX9_dotAt_4 ?_
  refine g_bipush (pc := 5) dX9_dotAt_5 kb12 ?_
  refine il3 (pc := 7) dX9_dotAt_7 ?_
  refine g_bipush (pc := 8) dX9_dotAt_8 kb7 ?_
  refine cl_X9_64 (pc := 10) (c_X9_within (w := 7) (by decide)) (by decide) ⟨Nat.zero_le _, Nat.zero_le _⟩ (Nat.le_of_ble_eq_true rfl) dX9_dotAt_10 ?_
  refine g_imul (pc := 13) dX9_dotAt_13 ?_
  refine g_iadd (pc := 14) dX9_dotAt_14 ?_
  refine il2 (pc := 15) dX9_dotAt_15 ?_
  refine g_bipush (pc := 16) dX9_dotAt_16 kb11 ?_
  refine cl_X9_64 (pc := 18) (c_X9_within (w := 11) (by decide)) (by decide) ⟨Nat.zero_le _, Nat.zero_le _⟩ (Nat.le_of_ble_eq_true rfl) dX9_dotAt_18 ?_
  refine g_iadd (pc := 21) dX9_dotAt_21 ?_
  refine g_iald (pc := 22) (pb + (12 * clN r 7 + clN c 11)) hm.a_nw (by omega) (by rw [show (12 : Int32) = nI 12 from rfl, pk_mul, nI_add, nI_add, Nat.add_assoc]) (by decide) dX9_dotAt_22 ?_
  exact retI (pc := 23) hR dX9_dotAt_23 (rfl) (rfl)
theorem c_X9_dotCost {l : Launch} {G : mG} {Z : mZ} {d : mD} {m nw od fd tp rd ah kp ka ln sz it mv : Nat} {k b mo i : Int32} (hm : mdS Z m nw od fd tp rd ah kp ka ln sz it mv) : CtI l G yX9_dotCost cX9_dotCost 9 .int 2 44 [.ref m, .int k, .int b, .int mo, .int i] Z d (rcI k (gA d nw) (fun k => gA d nw (96 + k)) b mo i) d := by
  refine enterI RX9 4 [some (.ref m), some (.int k), some (.int b), some (.int mo), some (.int i), none, none, none, none] (by decide) rfl (rfl) rfl rfl (fun X hR => ?_)
  refine g_iconst (pc := 0) dX9_dotCost_0 kc4 ?_
  refine il2 (pc := 1) dX9_dotCost_1 ?_
  refine g_iconst (pc := 2) dX9_dotCost_2 kc3 ?_
  refine g_irem (pc := 3) dX9_dotCost_3 (by decide) ?_
  refine g_imul (pc := 4) dX9_dotCost_4 ?_
  rw [col_c]
  refine il4 (pc := 5) dX9_dotCost_5 ?_
  refine g_iconst (pc := 7) dX9_dotCost_7 kc4 ?_
  refine g_irem (pc := 8) dX9_dotCost_8 (by decide) ?_
  refine g_iadd (pc := 9) dX9_dotCost_9 ?_
  refine is5 (pc := 10) dX9_dotCost_10 rfl ?_
  refine g_iconst (pc := 12) dX9_dotCost_12 kc4 ?_
  refine il2 (pc := 13) dX9_dotCost_13 ?_
  refine g_iconst (pc := 14) dX9_dotCost_14 kc3 ?_
  refine g_idiv (pc := 15) dX9_dotCost_15 (by decide) ?_
  refine g_imul (pc := 16) dX9_dotCost_16 ?_
  rw [row_c]
  refine il4 (pc := 17) dX9_dotCost_17 ?_
  refine g_iconst (pc := 19) dX9_dotCost_19 kc4 ?_
  refine g_idiv (pc := 20) dX9_dotCost_20 (by decide) ?_
  refine g_iadd (pc := 21) dX9_dotCost_21 ?_
  refine is6 (pc := 22) dX9_dotCost_22 rfl ?_
  refine al0 (pc := 24) dX9_dotCost_24 ?_
  refine g_bipush (pc := 25) dX9_dotCost_25 kb96 ?_
  refine il5 (pc := 27) dX9_dotCost_27 ?_
  refine il6 (pc := 29) dX9_dotCost_29 ?_
  refine cl_X9_76 (pc := 31) (c_X9_dotAt (pb := 96) hm (by decide)) hm.o9 (by decide) ⟨Nat.zero_le _, Nat.zero_le _⟩ (Nat.le_of_ble_eq_true rfl) dX9_dotCost_31 ?_
  refine al0 (pc := 34) dX9_dotCost_34 ?_
  refine g_iconst (pc := 35) dX9_dotCost_35 kc0 ?_
  refine il5 (pc := 36) dX9_dotCost_36 ?_
  refine il3 (pc := 38) dX9_dotCost_38 ?_
  refine cl_X9_55 (pc := 39) (c_X9_xOf) (by decide) ⟨Nat.zero_le _, Nat.zero_le _⟩ (Nat.le_of_ble_eq_true rfl) dX9_dotCost_39 ?_
  refine g_iadd (pc := 42) dX9_dotCost_42 ?_
  refine il6 (pc := 43) dX9_dotCost_43 ?_
  refine il3 (pc := 45) dX9_dotCost_45 ?_
  refine cl_X9_61 (pc := 46) (c_X9_yOf) (by decide) ⟨Nat.zero_le _, Nat.zero_le _⟩ (Nat.le_of_ble_eq_true rfl) dX9_dotCost_46 ?_
  refine g_iadd (pc := 49) dX9_dotCost_49 ?_
  refine cl_X9_76 (pc := 50) (c_X9_dotAt (pb := 0) hm (by decide)) hm.o9 (by decide) ⟨Nat.zero_le _, Nat.zero_le _⟩ (Nat.le_of_ble_eq_true rfl) dX9_dotCost_50 ?_
  rw [pix0]
  refine g_isub (pc := 53) dX9_dotCost_53 ?_
  refine cl_X9_58 (pc := 54) (c_X9_sized) (by decide) ⟨Nat.zero_le _, Nat.zero_le _⟩ (Nat.le_of_ble_eq_true rfl) dX9_dotCost_54 ?_
  rw [← dfI]
  refine is7 (pc := 57) dX9_dotCost_57 rfl ?_
  have J92 : ∀ (v9 : Int32), v9 = mB (redP i) → mGo l G (mRm 2 44) X RX9 cX9_dotCost 9 0 0 Z 92 [some (.ref m), some (.int k), some (.int b), some (.int mo), some (.int i), some (.int (colI b + mRem i 4)), some (.int (rowI b + i / 4)), some (.int (mAbs (dfI (gA d nw) (fun k => gA d nw (96 + k)) b mo i))), none] [.int v9] d := by
    intro v9 hJ92
    subst hJ92
    refine is8 (pc := 92) dX9_dotCost_92 rfl ?_
    refine il1 (pc := 94) dX9_dotCost_94 ?_
    by_cases c95_1 : k = 1
    · skip
      refine g_tblIn (pc := 95) 124 dX9_dotCost_95 (by rw [c95_1]; decide) (by rw [c95_1]; decide) (by rw [c95_1]; rfl) (by decide) ?_
      refine il7 (pc := 124) dX9_dotCost_124 ?_
      refine il7 (pc := 126) dX9_dotCost_126 ?_
      refine g_imul (pc := 128) dX9_dotCost_128 ?_
      exact retI (pc := 129) hR dX9_dotCost_129 (by simp [rcI, rdcI, c95_1]) (rfl)
    by_cases c95_2 : k = 2
    · skip
      refine g_tblIn (pc := 95) 130 dX9_dotCost_95 (by rw [c95_2]; decide) (by rw [c95_2]; decide) (by rw [c95_2]; rfl) (by decide) ?_
      refine il8 (pc := 130) dX9_dotCost_130 ?_
      refine g_ifeq 142 (pc := 132) dX9_dotCost_132 (by decide) (fun c132 => ?_) (fun c132 => ?_)
      · skip
        rw [mB_eq0] at c132
        refine il7 (pc := 142) dX9_dotCost_142 ?_
        exact retI (pc := 144) hR dX9_dotCost_144 (by simp [rcI, rdcI, c95_2, c132]) (rfl)
      · skip
        rw [mB_ne0] at c132
        refine g_iconst (pc := 135) dX9_dotCost_135 kc2 ?_
        refine il7 (pc := 136) dX9_dotCost_136 ?_
        refine g_imul (pc := 138) dX9_dotCost_138 ?_
        refine g_goto 144 (pc := 139) dX9_dotCost_139 (by decide) ?_
        exact retI (pc := 144) hR dX9_dotCost_144 (by simp [rcI, rdcI, c95_2, c132]) (rfl)
    by_cases c95_3 : k = 3
    · skip
      refine g_tblIn (pc := 95) 162 dX9_dotCost_95 (by rw [c95_3]; decide) (by rw [c95_3]; decide) (by rw [c95_3]; rfl) (by decide) ?_
      refine il7 (pc := 162) dX9_dotCost_162 ?_
      exact retI (pc := 164) hR dX9_dotCost_164 (by simp [rcI, rdcI, c95_3]) (rfl)
    by_cases c95_4 : k = 4
    · skip
      refine g_tblIn (pc := 95) 145 dX9_dotCost_95 (by rw [c95_4]; decide) (by rw [c95_4]; decide) (by rw [c95_4]; rfl) (by decide) ?_
      refine il7 (pc := 145) dX9_dotCost_145 ?_
      refine g_iconst (pc := 147) dX9_dotCost_147 kc2 ?_
      refine g_icmple 156 (pc := 148) dX9_dotCost_148 (by decide) (fun c148 => ?_) (fun c148 => ?_)
      · skip
        refine il7 (pc := 156) dX9_dotCost_156 ?_
        refine il7 (pc := 158) dX9_dotCost_158 ?_
        refine g_imul (pc := 160) dX9_dotCost_160 ?_
        exact retI (pc := 161) hR dX9_dotCost_161 (by simp [rcI, rdcI, c95_4, c148]) (rfl)
      · skip
        refine g_bipush (pc := 151) dX9_dotCost_151 kb9 ?_
        refine g_goto 161 (pc := 153) dX9_dotCost_153 (by decide) ?_
        exact retI (pc := 161) hR dX9_dotCost_161 (by simp [rcI, rdcI, c95_4, c148]) (rfl)
    refine g_tblOut (pc := 95) 162 dX9_dotCost_95 (by have q1 := lv_neT c95_1 (k := 1) (a := 1) (by decide); have q2 := lv_neT c95_2 (k := 2) (a := 2) (by decide); have q3 := lv_neT c95_3 (k := 3) (a := 3) (by decide); have q4 := lv_neT c95_4 (k := 4) (a := 4) (by decide); omega) (by decide) ?_
    refine il7 (pc := 162) dX9_dotCost_162 ?_
    exact retI (pc := 164) hR dX9_dotCost_164 (by simp [rcI, rdcI, c95_1, c95_2, c95_3, c95_4]) (rfl)
  refine il4 (pc := 59) dX9_dotCost_59 ?_
  refine g_iconst (pc := 61) dX9_dotCost_61 kc4 ?_
  refine g_icmplt 87 (pc := 62) dX9_dotCost_62 (by decide) (fun c62 => ?_) (fun c62 => ?_)
  · skip
    refine g_iconst (pc := 87) dX9_dotCost_87 kc1 ?_
    refine g_goto 92 (pc := 88) dX9_dotCost_88 (by decide) ?_
    exact J92 _ (by simp [mB, redP, c62])
  · skip
    refine il4 (pc := 65) dX9_dotCost_65 ?_
    refine g_bipush (pc := 67) dX9_dotCost_67 kb11 ?_
    refine g_icmpgt 87 (pc := 69) dX9_dotCost_69 (by decide) (fun c69 => ?_) (fun c69 => ?_)
    · skip
      refine g_iconst (pc := 87) dX9_dotCost_87 kc1 ?_
      refine g_goto 92 (pc := 88) dX9_dotCost_88 (by decide) ?_
      exact J92 _ (by simp [mB, redP, c62, c69])
    · skip
      refine il4 (pc := 72) dX9_dotCost_72 ?_
      refine g_iconst (pc := 74) dX9_dotCost_74 kc4 ?_
      refine g_irem (pc := 75) dX9_dotCost_75 (by decide) ?_
      refine g_ifeq 87 (pc := 76) dX9_dotCost_76 (by decide) (fun c76 => ?_) (fun c76 => ?_)
      · skip
        refine g_iconst (pc := 87) dX9_dotCost_87 kc1 ?_
        refine g_goto 92 (pc := 88) dX9_dotCost_88 (by decide) ?_
        exact J92 _ (by simp [mB, redP, c62, c69, c76])
      · skip
        refine il4 (pc := 79) dX9_dotCost_79 ?_
        refine g_iconst (pc := 81) dX9_dotCost_81 kc4 ?_
        refine g_irem (pc := 82) dX9_dotCost_82 (by decide) ?_
        refine g_iconst (pc := 83) dX9_dotCost_83 kc3 ?_
        refine g_icmpne 91 (pc := 84) dX9_dotCost_84 (by decide) (fun c84 => ?_) (fun c84 => ?_)
        · skip
          refine g_iconst (pc := 91) dX9_dotCost_91 kc0 ?_
          exact J92 _ (by simp [mB, redP, c62, c69, c76, c84])
        · skip
          refine g_iconst (pc := 87) dX9_dotCost_87 kc1 ?_
          refine g_goto 92 (pc := 88) dX9_dotCost_88 (by decide) ?_
          exact J92 _ (by simp [mB, redP, c62, c69, c76, c84])
theorem c_X9_costBy {l : Launch} {G : mG} {Z : mZ} {d : mD} {m nw od fd tp rd ah kp ka ln sz it mv : Nat} {k b mo : Int32} (hm : mdS Z m nw od fd tp rd ah kp ka ln sz it mv) : CtI l G yX9_costBy cX9_costBy 6 .int 3 72 [.ref m, .int k, .int b, .int mo] Z d (rcC k (gA d nw) (fun k => gA d nw (96 + k)) b mo) d := by
  refine enterI RX9 2 [some (.ref m), some (.int k), some (.int b), some (.int mo), none, none] (by decide) rfl (rfl) rfl rfl (fun X hR => ?_)
  refine il1 (pc := 0) dX9_costBy_0 ?_
  refine il3 (pc := 1) dX9_costBy_1 ?_
  refine cl_X9_80 (pc := 2) (c_X9_atOnce) (by decide) ⟨Nat.zero_le _, Nat.zero_le _⟩ (Nat.le_of_ble_eq_true rfl) dX9_costBy_2 ?_
  refine is4 (pc := 5) dX9_costBy_5 rfl ?_
  refine g_iconst (pc := 7) dX9_costBy_7 kc0 ?_
  refine is5 (pc := 8) dX9_costBy_8 rfl ?_
  have L10 : ∀ (n i : Nat) (acc : Int32), i + n = 16 → (accL (rcI k (gA d nw) (fun k => gA d nw (96 + k)) b mo) n i acc = rcC k (gA d nw) (fun k => gA d nw (96 + k)) b mo) → mGo l G (mRm 3 72) X RX9 cX9_costBy 6 0 0 Z 10 [some (.ref m), some (.int k), some (.int b), some (.int mo), some (.int acc), some (.int (nI i))] [] d := by
    intro n; induction n with
    | zero =>
      intro i acc hin10 hF
      refine il5 (pc := 10) dX9_costBy_10 ?_
      refine g_bipush (pc := 12) dX9_costBy_12 kb16 ?_
      refine g_icmpge 37 (pc := 14) dX9_costBy_14 (by decide) (fun c14 => ?_) (fun c14 => absurd (nI_le (a := 16) (by omega) (by omega)) c14)
      refine il4 (pc := 37) dX9_costBy_37 ?_
      exact retI (pc := 39) hR dX9_costBy_39 (hF) (rfl)
    | succ n ih10 =>
      intro i acc hin10 hF
      refine il5 (pc := 10) dX9_costBy_10 ?_
      refine g_bipush (pc := 12) dX9_costBy_12 kb16 ?_
      refine g_icmpge 37 (pc := 14) dX9_costBy_14 (by decide) (fun c14 => absurd c14 (nI_ge (b := 16) (by omega) (by omega))) (fun c14 => ?_)
      refine il4 (pc := 17) dX9_costBy_17 ?_
      refine al0 (pc := 19) dX9_costBy_19 ?_
      refine il1 (pc := 20) dX9_costBy_20 ?_
      refine il2 (pc := 21) dX9_costBy_21 ?_
      refine il3 (pc := 22) dX9_costBy_22 ?_
      refine il5 (pc := 23) dX9_costBy_23 ?_
      refine cl_X9_83 (pc := 25) (c_X9_dotCost hm) hm.o9 (by decide) ⟨Nat.zero_le _, Nat.zero_le _⟩ (Nat.le_of_ble_eq_true rfl) dX9_costBy_25 ?_
      refine g_iadd (pc := 28) dX9_costBy_28 ?_
      refine is4 (pc := 29) dX9_costBy_29 rfl ?_
      refine ic5 (pc := 31) dX9_costBy_31 kc1 rfl ?_
      refine g_goto 10 (pc := 34) dX9_costBy_34 (by decide) ?_
      rw [nI_1]
      exact ih10 (i + 1) _ (by omega) hF
  exact L10 16 0 _ (by omega) rfl
theorem c_X9_bestBy {l : Launch} {G : mG} {Z : mZ} {d : mD} {m nw od fd tp rd ah kp ka ln sz it mv : Nat} {k b : Int32} (hm : mdS Z m nw od fd tp rd ah kp ka ln sz it mv) : CtI l G yX9_bestBy cX9_bestBy 7 .int 4 97 [.ref m, .int k, .int b] Z d (rbE (gA d od) k (gA d nw) (fun k => gA d nw (96 + k)) b) d := by
  refine enterI RX9 4 [some (.ref m), some (.int k), some (.int b), none, none, none, none] (by decide) rfl (rfl) rfl rfl (fun X hR => ?_)
  refine al0 (pc := 0) dX9_bestBy_0 ?_
  refine gf_X9_13 (pc := 1) hm.o9 hm.r289 dX9_bestBy_1 ?_
  refine g_iconst (pc := 4) dX9_bestBy_4 kc0 ?_
  refine g_iald (pc := 5) 0 hm.a_od (by decide) (rfl) (by decide) dX9_bestBy_5 ?_
  refine is3 (pc := 6) dX9_bestBy_6 rfl ?_
  refine al0 (pc := 7) dX9_bestBy_7 ?_
  refine il1 (pc := 8) dX9_bestBy_8 ?_
  refine il2 (pc := 9) dX9_bestBy_9 ?_
  refine il3 (pc := 10) dX9_bestBy_10 ?_
  refine cl_X9_87 (pc := 11) (c_X9_costBy hm) hm.o9 (by decide) ⟨Nat.zero_le _, Nat.zero_le _⟩ (Nat.le_of_ble_eq_true rfl) dX9_bestBy_11 ?_
  refine is4 (pc := 14) dX9_bestBy_14 rfl ?_
  refine g_iconst (pc := 16) dX9_bestBy_16 kc1 ?_
  refine is5 (pc := 17) dX9_bestBy_17 rfl ?_
  have L19 : ∀ (n i : Nat) (be : Int32) (le : Int32), i + n = 48 → (rbL (gA d od) (rcC k (gA d nw) (fun k => gA d nw (96 + k)) b) n (i + 1) be le = rbE (gA d od) k (gA d nw) (fun k => gA d nw (96 + k)) b) → mGo l G (mRm 4 97) X RX9 cX9_bestBy 7 0 0 Z 19 [some (.ref m), some (.int k), some (.int b), some (.int be), some (.int le), some (.int (nI (i + 1))), none] [] d := by
    intro n; induction n with
    | zero =>
      intro i be le hin19 hF
      refine il5 (pc := 19) dX9_bestBy_19 ?_
      refine g_bipush (pc := 21) dX9_bestBy_21 kb49 ?_
      refine g_icmpge 82 (pc := 23) dX9_bestBy_23 (by decide) (fun c23 => ?_) (fun c23 => absurd (nI_le (a := 49) (by omega) (by omega)) c23)
      refine il3 (pc := 82) dX9_bestBy_82 ?_
      exact retI (pc := 83) hR dX9_bestBy_83 (hF) (rfl)
    | succ n ih19 =>
      intro i be le hin19 hF
      refine il5 (pc := 19) dX9_bestBy_19 ?_
      refine g_bipush (pc := 21) dX9_bestBy_21 kb49 ?_
      refine g_icmpge 82 (pc := 23) dX9_bestBy_23 (by decide) (fun c23 => absurd c23 (nI_ge (b := 49) (by omega) (by omega))) (fun c23 => ?_)
      refine al0 (pc := 26) dX9_bestBy_26 ?_
      refine il1 (pc := 27) dX9_bestBy_27 ?_
      refine il2 (pc := 28) dX9_bestBy_28 ?_
      refine al0 (pc := 29) dX9_bestBy_29 ?_
      refine gf_X9_13 (pc := 30) hm.o9 hm.r289 dX9_bestBy_30 ?_
      refine il5 (pc := 33) dX9_bestBy_33 ?_
      refine g_iald (pc := 35) (i + 1) hm.a_od (by omega) (rfl) (by decide) dX9_bestBy_35 ?_
      refine cl_X9_87 (pc := 36) (c_X9_costBy hm) hm.o9 (by decide) ⟨Nat.zero_le _, Nat.zero_le _⟩ (Nat.le_of_ble_eq_true rfl) dX9_bestBy_36 ?_
      refine is6 (pc := 39) dX9_bestBy_39 rfl ?_
      refine il6 (pc := 41) dX9_bestBy_41 ?_
      refine il4 (pc := 43) dX9_bestBy_43 ?_
      refine g_icmpge 58 (pc := 45) dX9_bestBy_45 (by decide) (fun c45 => ?_) (fun c45 => ?_)
      · skip
        refine il3 (pc := 58) dX9_bestBy_58 ?_
        refine is3 (pc := 59) dX9_bestBy_59 rfl ?_
        refine il6 (pc := 60) dX9_bestBy_60 ?_
        refine il4 (pc := 62) dX9_bestBy_62 ?_
        refine g_icmpge 72 (pc := 64) dX9_bestBy_64 (by decide) (fun c64 => ?_) (fun c64 => absurd c45 c64)
        refine il4 (pc := 72) dX9_bestBy_72 ?_
        refine is4 (pc := 74) dX9_bestBy_74 rfl ?_
        refine ic5 (pc := 76) dX9_bestBy_76 kc1 rfl ?_
        refine g_goto 19 (pc := 79) dX9_bestBy_79 (by decide) ?_
        rw [nI_1]
        refine dr6 ?_
        exact ih19 (i + 1) _ _ (by omega) (by rw [← hF, rbL, if_neg (Int32.not_lt.mpr c45)])
      · skip
        refine al0 (pc := 48) dX9_bestBy_48 ?_
        refine gf_X9_13 (pc := 49) hm.o9 hm.r289 dX9_bestBy_49 ?_
        refine il5 (pc := 52) dX9_bestBy_52 ?_
        refine g_iald (pc := 54) (i + 1) hm.a_od (by omega) (rfl) (by decide) dX9_bestBy_54 ?_
        refine g_goto 59 (pc := 55) dX9_bestBy_55 (by decide) ?_
        refine is3 (pc := 59) dX9_bestBy_59 rfl ?_
        refine il6 (pc := 60) dX9_bestBy_60 ?_
        refine il4 (pc := 62) dX9_bestBy_62 ?_
        refine g_icmpge 72 (pc := 64) dX9_bestBy_64 (by decide) (fun c64 => absurd c64 c45) (fun c64 => ?_)
        refine il6 (pc := 67) dX9_bestBy_67 ?_
        refine g_goto 74 (pc := 69) dX9_bestBy_69 (by decide) ?_
        refine is4 (pc := 74) dX9_bestBy_74 rfl ?_
        refine ic5 (pc := 76) dX9_bestBy_76 kc1 rfl ?_
        refine g_goto 19 (pc := 79) dX9_bestBy_79 (by decide) ?_
        rw [nI_1]
        refine dr6 ?_
        exact ih19 (i + 1) _ _ (by omega) (by rw [← hF, rbL, if_pos (Int32.not_le.mp c45)])
  exact L19 48 0 _ _ (by omega) rfl
theorem c_X9_best {l : Launch} {G : mG} {Z : mZ} {d : mD} {m nw od fd tp rd ah kp ka ln sz it mv : Nat} {b : Int32} (hm : mdS Z m nw od fd tp rd ah kp ka ln sz it mv) : CtI l G yX9_best cX9_best 2 .int 5 123 [.ref m, .int b] Z d (rbE (gA d od) (gA d nw 192) (gA d nw) (fun k => gA d nw (96 + k)) b) d := by
  refine enterI RX9 0 [some (.ref m), some (.int b)] (by decide) rfl (rfl) rfl rfl (fun X hR => ?_)
  refine al0 (pc := 0) dX9_best_0 ?_
  refine al0 (pc := 1) dX9_best_1 ?_
  refine gf_X9_7 (pc := 2) hm.o9 hm.r288 dX9_best_2 ?_
  refine g_sipush (pc := 5) dX9_best_5 ks192 ?_
  refine g_iald (pc := 8) 192 hm.a_nw (by decide) (rfl) (by decide) dX9_best_8 ?_
  refine il1 (pc := 9) dX9_best_9 ?_
  refine cl_X9_90 (pc := 10) (c_X9_bestBy hm) hm.o9 (by decide) ⟨Nat.zero_le _, Nat.zero_le _⟩ (Nat.le_of_ble_eq_true rfl) dX9_best_10 ?_
  exact retI (pc := 13) hR dX9_best_13 (rfl) (rfl)
theorem c_X9_sumsOff {l : Launch} {G : mG} {Z : mZ} {d : mD} {m nw od fd tp rd ah kp ka ln sz it mv : Nat} {b mo : Int32} (hm : mdS Z m nw od fd tp rd ah kp ka ln sz it mv) : CtI l G yX9_sumsOff cX9_sumsOff 7 .int 2 44 [.ref m, .int b, .int mo] Z d (smoI (gA d nw) (fun k => gA d nw (96 + k)) b mo) d := by
  refine enterI RX9 4 [some (.ref m), some (.int b), some (.int mo), none, none, none, none] (by decide) rfl (rfl) rfl rfl (fun X hR => ?_)
  refine g_iconst (pc := 0) dX9_sumsOff_0 kc0 ?_
  refine is3 (pc := 1) dX9_sumsOff_1 rfl ?_
  refine g_iconst (pc := 2) dX9_sumsOff_2 kc0 ?_
  refine is4 (pc := 3) dX9_sumsOff_3 rfl ?_
  have L5 : ∀ (n i : Nat) (acc : Int32), i + n = 16 → (accL (dfI (gA d nw) (fun k => gA d nw (96 + k)) b mo) n i acc = accL (dfI (gA d nw) (fun k => gA d nw (96 + k)) b mo) 16 0 0) → mGo l G (mRm 2 44) X RX9 cX9_sumsOff 7 0 0 Z 5 [some (.ref m), some (.int b), some (.int mo), some (.int acc), some (.int (nI i)), none, none] [] d := by
    intro n; induction n with
    | zero =>
      intro i acc hin5 hF
      refine il4 (pc := 5) dX9_sumsOff_5 ?_
      refine g_bipush (pc := 7) dX9_sumsOff_7 kb16 ?_
      refine g_icmpge 75 (pc := 9) dX9_sumsOff_9 (by decide) (fun c9 => ?_) (fun c9 => absurd (nI_le (a := 16) (by omega) (by omega)) c9)
      refine il3 (pc := 75) dX9_sumsOff_75 ?_
      refine cl_X9_58 (pc := 76) (c_X9_sized) (by decide) ⟨Nat.zero_le _, Nat.zero_le _⟩ (Nat.le_of_ble_eq_true rfl) dX9_sumsOff_76 ?_
      exact retI (pc := 79) hR dX9_sumsOff_79 (by rw [smoI, ← hF]; rfl) (rfl)
    | succ n ih5 =>
      intro i acc hin5 hF
      refine il4 (pc := 5) dX9_sumsOff_5 ?_
      refine g_bipush (pc := 7) dX9_sumsOff_7 kb16 ?_
      refine g_icmpge 75 (pc := 9) dX9_sumsOff_9 (by decide) (fun c9 => absurd c9 (nI_ge (b := 16) (by omega) (by omega))) (fun c9 => ?_)
      refine g_iconst (pc := 12) dX9_sumsOff_12 kc4 ?_
      refine il1 (pc := 13) dX9_sumsOff_13 ?_
      refine g_iconst (pc := 14) dX9_sumsOff_14 kc3 ?_
      refine g_irem (pc := 15) dX9_sumsOff_15 (by decide) ?_
      refine g_imul (pc := 16) dX9_sumsOff_16 ?_
      rw [col_c]
      refine il4 (pc := 17) dX9_sumsOff_17 ?_
      refine g_iconst (pc := 19) dX9_sumsOff_19 kc4 ?_
      refine g_irem (pc := 20) dX9_sumsOff_20 (by decide) ?_
      refine g_iadd (pc := 21) dX9_sumsOff_21 ?_
      refine is5 (pc := 22) dX9_sumsOff_22 rfl ?_
      refine g_iconst (pc := 24) dX9_sumsOff_24 kc4 ?_
      refine il1 (pc := 25) dX9_sumsOff_25 ?_
      refine g_iconst (pc := 26) dX9_sumsOff_26 kc3 ?_
      refine g_idiv (pc := 27) dX9_sumsOff_27 (by decide) ?_
      refine g_imul (pc := 28) dX9_sumsOff_28 ?_
      rw [row_c]
      refine il4 (pc := 29) dX9_sumsOff_29 ?_
      refine g_iconst (pc := 31) dX9_sumsOff_31 kc4 ?_
      refine g_idiv (pc := 32) dX9_sumsOff_32 (by decide) ?_
      refine g_iadd (pc := 33) dX9_sumsOff_33 ?_
      refine is6 (pc := 34) dX9_sumsOff_34 rfl ?_
      refine il3 (pc := 36) dX9_sumsOff_36 ?_
      refine al0 (pc := 37) dX9_sumsOff_37 ?_
      refine g_bipush (pc := 38) dX9_sumsOff_38 kb96 ?_
      refine il5 (pc := 40) dX9_sumsOff_40 ?_
      refine il6 (pc := 42) dX9_sumsOff_42 ?_
      refine cl_X9_76 (pc := 44) (c_X9_dotAt (pb := 96) hm (by decide)) hm.o9 (by decide) ⟨Nat.zero_le _, Nat.zero_le _⟩ (Nat.le_of_ble_eq_true rfl) dX9_sumsOff_44 ?_
      refine al0 (pc := 47) dX9_sumsOff_47 ?_
      refine g_iconst (pc := 48) dX9_sumsOff_48 kc0 ?_
      refine il5 (pc := 49) dX9_sumsOff_49 ?_
      refine il2 (pc := 51) dX9_sumsOff_51 ?_
      refine cl_X9_55 (pc := 52) (c_X9_xOf) (by decide) ⟨Nat.zero_le _, Nat.zero_le _⟩ (Nat.le_of_ble_eq_true rfl) dX9_sumsOff_52 ?_
      refine g_iadd (pc := 55) dX9_sumsOff_55 ?_
      refine il6 (pc := 56) dX9_sumsOff_56 ?_
      refine il2 (pc := 58) dX9_sumsOff_58 ?_
      refine cl_X9_61 (pc := 59) (c_X9_yOf) (by decide) ⟨Nat.zero_le _, Nat.zero_le _⟩ (Nat.le_of_ble_eq_true rfl) dX9_sumsOff_59 ?_
      refine g_iadd (pc := 62) dX9_sumsOff_62 ?_
      refine cl_X9_76 (pc := 63) (c_X9_dotAt (pb := 0) hm (by decide)) hm.o9 (by decide) ⟨Nat.zero_le _, Nat.zero_le _⟩ (Nat.le_of_ble_eq_true rfl) dX9_sumsOff_63 ?_
      rw [pix0]
      refine g_isub (pc := 66) dX9_sumsOff_66 ?_
      refine g_iadd (pc := 67) dX9_sumsOff_67 ?_
      refine is3 (pc := 68) dX9_sumsOff_68 rfl ?_
      refine ic4 (pc := 69) dX9_sumsOff_69 kc1 rfl ?_
      refine g_goto 5 (pc := 72) dX9_sumsOff_72 (by decide) ?_
      rw [nI_1]
      refine dr5 ?_
      refine dr6 ?_
      exact ih5 (i + 1) _ (by omega) hF
  exact L5 16 0 0 (by omega) rfl
set_option maxHeartbeats 2000000 in
theorem c_X9_tries {l : Launch} {G : mG} {Z : mZ} {d : mD} {m nw od fd tp rd ah kp ka ln sz it mv : Nat} {b : Int32} (hm : mdS Z m nw od fd tp rd ah kp ka ln sz it mv) : CtV l G yX9_tries cX9_tries 10 4 97 [.ref m, .int b] Z d (trT d m (trQ (gA d od) (gA d nw 192) (gA d nw) (fun k => gA d nw (96 + k)) b)) := by
  refine enterV RX9 8 [some (.ref m), some (.int b), none, none, none, none, none, none, none, none] (by decide) rfl rfl rfl (fun X hR => ?_)
  refine al0 (pc := 0) dX9_tries_0 ?_
  refine gf_X9_7 (pc := 1) hm.o9 hm.r288 dX9_tries_1 ?_
  refine g_sipush (pc := 4) dX9_tries_4 ks192 ?_
  refine g_iald (pc := 7) 192 hm.a_nw (by decide) (rfl) (by decide) dX9_tries_7 ?_
  refine is2 (pc := 8) dX9_tries_8 rfl ?_
  refine il2 (pc := 9) dX9_tries_9 ?_
  have J28 : ∀ (v9 : Int32), v9 = mB (sumP (gA d nw 192)) → mGo l G (mRm 4 97) X RX9 cX9_tries 10 0 0 Z 28 [some (.ref m), some (.int b), some (.int (gA d nw 192)), none, none, none, none, none, none, none] [.int v9] d := by
    intro v9 hJ28
    subst hJ28
    refine is3 (pc := 28) dX9_tries_28 rfl ?_
    refine al0 (pc := 29) dX9_tries_29 ?_
    refine il2 (pc := 30) dX9_tries_30 ?_
    refine il1 (pc := 31) dX9_tries_31 ?_
    refine al0 (pc := 32) dX9_tries_32 ?_
    refine gf_X9_13 (pc := 33) hm.o9 hm.r289 dX9_tries_33 ?_
    refine g_iconst (pc := 36) dX9_tries_36 kc0 ?_
    refine g_iald (pc := 37) 0 hm.a_od (by decide) (rfl) (by decide) dX9_tries_37 ?_
    refine cl_X9_87 (pc := 38) (c_X9_costBy hm) hm.o9 (by decide) ⟨Nat.zero_le _, Nat.zero_le _⟩ (Nat.le_of_ble_eq_true rfl) dX9_tries_38 ?_
    refine is4 (pc := 41) dX9_tries_41 rfl ?_
    refine al0 (pc := 43) dX9_tries_43 ?_
    refine g_bipush (pc := 44) dX9_tries_44 kb16 ?_
    refine pf_X9_93 (pc := 46) hm.o9 dX9_tries_46 ?_
    refine al0 (pc := 49) dX9_tries_49 ?_
    refine g_iconst (pc := 50) dX9_tries_50 kc0 ?_
    refine pf_X9_96 (pc := 51) hm.o9 dX9_tries_51 ?_
    refine al0 (pc := 54) dX9_tries_54 ?_
    refine g_bipush (pc := 55) dX9_tries_55 kb16 ?_
    refine pf_X9_99 (pc := 57) hm.o9 dX9_tries_57 ?_
    refine g_iconst (pc := 60) dX9_tries_60 kc1 ?_
    refine is5 (pc := 61) dX9_tries_61 rfl ?_
    have L63 : ∀ (n i : Nat) (le : Int32) (lk : Int32) (ou : Int32) (sk : Int32), i + n = 48 → (trL (gA d od) (gA d nw 192) (gA d nw) (fun k => gA d nw (96 + k)) b n (i + 1) le lk ou sk = trQ (gA d od) (gA d nw 192) (gA d nw) (fun k => gA d nw (96 + k)) b) → mGo l G (mRm 4 97) X RX9 cX9_tries 10 0 0 Z 63 [some (.ref m), some (.int b), some (.int (gA d nw 192)), some (.int (mB (sumP (gA d nw 192)))), some (.int le), some (.int (nI (i + 1))), none, none, none, none] [] (trD d m lk ou sk) := by
      intro n; induction n with
      | zero =>
        intro i le lk ou sk hin63 hF
        refine il5 (pc := 63) dX9_tries_63 ?_
        refine g_bipush (pc := 65) dX9_tries_65 kb49 ?_
        refine g_icmpge 220 (pc := 67) dX9_tries_67 (by decide) (fun c67 => ?_) (fun c67 => absurd (nI_le (a := 49) (by omega) (by omega)) c67)
        exact retV (pc := 220) hR dX9_tries_220 (by rw [trT, ← hF]; rfl)
      | succ n ih63 =>
        intro i le lk ou sk hin63 hF
        refine il5 (pc := 63) dX9_tries_63 ?_
        refine g_bipush (pc := 65) dX9_tries_65 kb49 ?_
        refine g_icmpge 220 (pc := 67) dX9_tries_67 (by decide) (fun c67 => absurd c67 (nI_ge (b := 49) (by omega) (by omega))) (fun c67 => ?_)
        refine al0 (pc := 70) dX9_tries_70 ?_
        refine gf_X9_13 (pc := 71) hm.o9 hm.r289 dX9_tries_71 ?_
        refine il5 (pc := 74) dX9_tries_74 ?_
        refine g_iald (pc := 76) (i + 1) hm.a_od (by omega) (rfl) (by decide) dX9_tries_76 ?_
        rw [gA_tr]
        refine is6 (pc := 77) dX9_tries_77 rfl ?_
        refine il3 (pc := 79) dX9_tries_79 ?_
        have J100 : ∀ (w9 : Int32), w9 = mB (sumP (gA d nw 192) ∧ le ≤ smoI (gA d nw) (fun k => gA d nw (96 + k)) b (gA d od (i + 1))) → mGo l G (mRm 4 97) X RX9 cX9_tries 10 0 0 Z 100 [some (.ref m), some (.int b), some (.int (gA d nw 192)), some (.int (mB (sumP (gA d nw 192)))), some (.int le), some (.int (nI (i + 1))), some (.int (gA d od (i + 1))), none, none, none] [.int w9] (trD d m lk ou sk) := by
          intro w9 hJ100
          subst hJ100
          refine is7 (pc := 100) dX9_tries_100 rfl ?_
          refine il2 (pc := 102) dX9_tries_102 ?_
          refine il6 (pc := 103) dX9_tries_103 ?_
          refine cl_X9_80 (pc := 105) (c_X9_atOnce) (by decide) ⟨Nat.zero_le _, Nat.zero_le _⟩ (Nat.le_of_ble_eq_true rfl) dX9_tries_105 ?_
          refine is8 (pc := 108) dX9_tries_108 rfl ?_
          have J148 : ∀ (c9 : Int32) (k9 : Int32), c9 = (cbL (rcI (gA d nw 192) (gA d nw) (fun k => gA d nw (96 + k)) b (gA d od (i + 1))) le 16 0 (atoI (gA d nw 192) (gA d od (i + 1))) 0).1 ∧ k9 = (cbL (rcI (gA d nw 192) (gA d nw) (fun k => gA d nw (96 + k)) b (gA d od (i + 1))) le 16 0 (atoI (gA d nw 192) (gA d od (i + 1))) 0).2 → mGo l G (mRm 4 97) X RX9 cX9_tries 10 0 0 Z 148 [some (.ref m), some (.int b), some (.int (gA d nw 192)), some (.int (mB (sumP (gA d nw 192)))), some (.int le), some (.int (nI (i + 1))), some (.int (gA d od (i + 1))), some (.int (mB (sumP (gA d nw 192) ∧ le ≤ smoI (gA d nw) (fun k => gA d nw (96 + k)) b (gA d od (i + 1))))), some (.int c9), some (.int k9)] [] (trD d m lk ou sk) := by
            intro c9 k9 hJ148
            obtain ⟨rfl, rfl⟩ := hJ148
            refine al0 (pc := 148) dX9_tries_148 ?_
            refine g_dupR (pc := 149) dX9_tries_149 ?_
            refine gf_X9_93 (pc := 150) hm.o9 dX9_tries_150 ?_
            rw [gtr_290]
            refine il9 (pc := 153) dX9_tries_153 ?_
            refine g_iadd (pc := 155) dX9_tries_155 ?_
            refine pf_X9_93 (pc := 156) hm.o9 dX9_tries_156 ?_
            rw [tr_290]
            refine al0 (pc := 159) dX9_tries_159 ?_
            refine g_dupR (pc := 160) dX9_tries_160 ?_
            refine gf_X9_96 (pc := 161) hm.o9 dX9_tries_161 ?_
            rw [gtr_291]
            refine il7 (pc := 164) dX9_tries_164 ?_
            refine g_ifeq 173 (pc := 166) dX9_tries_166 (by decide) (fun c166 => ?_) (fun c166 => ?_)
            · skip
              rw [mB_eq0] at c166
              refine g_iconst (pc := 173) dX9_tries_173 kc0 ?_
              refine g_iadd (pc := 174) dX9_tries_174 ?_
              refine pf_X9_96 (pc := 175) hm.o9 dX9_tries_175 ?_
              rw [tr_291]
              refine al0 (pc := 178) dX9_tries_178 ?_
              refine g_dupR (pc := 179) dX9_tries_179 ?_
              refine gf_X9_99 (pc := 180) hm.o9 dX9_tries_180 ?_
              rw [gtr_292]
              refine il7 (pc := 183) dX9_tries_183 ?_
              refine g_ifeq 192 (pc := 185) dX9_tries_185 (by decide) (fun c185 => ?_) (fun c185 => absurd (mB_0 c166) c185)
              refine il9 (pc := 192) dX9_tries_192 ?_
              refine g_iadd (pc := 194) dX9_tries_194 ?_
              refine pf_X9_99 (pc := 195) hm.o9 dX9_tries_195 ?_
              rw [tr_292]
              refine il8 (pc := 198) dX9_tries_198 ?_
              refine il4 (pc := 200) dX9_tries_200 ?_
              refine g_icmpge 210 (pc := 202) dX9_tries_202 (by decide) (fun c202 => ?_) (fun c202 => ?_)
              · skip
                refine il4 (pc := 210) dX9_tries_210 ?_
                refine is4 (pc := 212) dX9_tries_212 rfl ?_
                refine ic5 (pc := 214) dX9_tries_214 kc1 rfl ?_
                refine g_goto 63 (pc := 217) dX9_tries_217 (by decide) ?_
                rw [nI_1]
                refine dr6 ?_
                refine dr7 ?_
                refine dr8 ?_
                refine dr9 ?_
                exact ih63 (i + 1) _ _ _ _ (by omega) (by rw [← hF, trL, if_neg (Int32.not_lt.mpr c202)]; simp [mB, c166])
              · skip
                refine il8 (pc := 205) dX9_tries_205 ?_
                refine g_goto 212 (pc := 207) dX9_tries_207 (by decide) ?_
                refine is4 (pc := 212) dX9_tries_212 rfl ?_
                refine ic5 (pc := 214) dX9_tries_214 kc1 rfl ?_
                refine g_goto 63 (pc := 217) dX9_tries_217 (by decide) ?_
                rw [nI_1]
                refine dr6 ?_
                refine dr7 ?_
                refine dr8 ?_
                refine dr9 ?_
                exact ih63 (i + 1) _ _ _ _ (by omega) (by rw [← hF, trL, if_pos (Int32.not_le.mp c202)]; simp [mB, c166])
            · skip
              rw [mB_ne0] at c166
              refine g_iconst (pc := 169) dX9_tries_169 kc1 ?_
              refine g_goto 174 (pc := 170) dX9_tries_170 (by decide) ?_
              refine g_iadd (pc := 174) dX9_tries_174 ?_
              refine pf_X9_96 (pc := 175) hm.o9 dX9_tries_175 ?_
              rw [tr_291]
              refine al0 (pc := 178) dX9_tries_178 ?_
              refine g_dupR (pc := 179) dX9_tries_179 ?_
              refine gf_X9_99 (pc := 180) hm.o9 dX9_tries_180 ?_
              rw [gtr_292]
              refine il7 (pc := 183) dX9_tries_183 ?_
              refine g_ifeq 192 (pc := 185) dX9_tries_185 (by decide) (fun c185 => absurd c185 (mB_ne0.mpr c166)) (fun c185 => ?_)
              refine g_iconst (pc := 188) dX9_tries_188 kc0 ?_
              refine g_goto 194 (pc := 189) dX9_tries_189 (by decide) ?_
              refine g_iadd (pc := 194) dX9_tries_194 ?_
              refine pf_X9_99 (pc := 195) hm.o9 dX9_tries_195 ?_
              rw [tr_292]
              refine il8 (pc := 198) dX9_tries_198 ?_
              refine il4 (pc := 200) dX9_tries_200 ?_
              refine g_icmpge 210 (pc := 202) dX9_tries_202 (by decide) (fun c202 => ?_) (fun c202 => ?_)
              · skip
                refine il4 (pc := 210) dX9_tries_210 ?_
                refine is4 (pc := 212) dX9_tries_212 rfl ?_
                refine ic5 (pc := 214) dX9_tries_214 kc1 rfl ?_
                refine g_goto 63 (pc := 217) dX9_tries_217 (by decide) ?_
                rw [nI_1]
                refine dr6 ?_
                refine dr7 ?_
                refine dr8 ?_
                refine dr9 ?_
                exact ih63 (i + 1) _ _ _ _ (by omega) (by rw [← hF, trL, if_neg (Int32.not_lt.mpr c202)]; simp [mB, c166])
              · skip
                refine il8 (pc := 205) dX9_tries_205 ?_
                refine g_goto 212 (pc := 207) dX9_tries_207 (by decide) ?_
                refine is4 (pc := 212) dX9_tries_212 rfl ?_
                refine ic5 (pc := 214) dX9_tries_214 kc1 rfl ?_
                refine g_goto 63 (pc := 217) dX9_tries_217 (by decide) ?_
                rw [nI_1]
                refine dr6 ?_
                refine dr7 ?_
                refine dr8 ?_
                refine dr9 ?_
                exact ih63 (i + 1) _ _ _ _ (by omega) (by rw [← hF, trL, if_pos (Int32.not_le.mp c202)]; simp [mB, c166])
          refine g_iconst (pc := 110) dX9_tries_110 kc0 ?_
          refine is9 (pc := 111) dX9_tries_111 rfl ?_
          have L113 : ∀ (n2 i2 : Nat) (s9 : Int32), i2 + n2 = 16 → (cbL (rcI (gA d nw 192) (gA d nw) (fun k => gA d nw (96 + k)) b (gA d od (i + 1))) le n2 i2 s9 (nI i2) = cbL (rcI (gA d nw 192) (gA d nw) (fun k => gA d nw (96 + k)) b (gA d od (i + 1))) le 16 0 (atoI (gA d nw 192) (gA d od (i + 1))) 0) → mGo l G (mRm 4 97) X RX9 cX9_tries 10 0 0 Z 113 [some (.ref m), some (.int b), some (.int (gA d nw 192)), some (.int (mB (sumP (gA d nw 192)))), some (.int le), some (.int (nI (i + 1))), some (.int (gA d od (i + 1))), some (.int (mB (sumP (gA d nw 192) ∧ le ≤ smoI (gA d nw) (fun k => gA d nw (96 + k)) b (gA d od (i + 1))))), some (.int s9), some (.int (nI i2))] [] (trD d m lk ou sk) := by
            intro n2; induction n2 with
            | zero =>
              intro i2 s9 hin113 hG
              refine il9 (pc := 113) dX9_tries_113 ?_
              refine g_bipush (pc := 115) dX9_tries_115 kb16 ?_
              refine g_icmpge 148 (pc := 117) dX9_tries_117 (by decide) (fun c117 => ?_) (fun c117 => absurd (nI_le (a := 16) (by omega) (by omega)) c117)
              exact J148 _ _ (by rw [← hG]; exact ⟨rfl, rfl⟩)
            | succ n2 ih113 =>
              intro i2 s9 hin113 hG
              refine il9 (pc := 113) dX9_tries_113 ?_
              refine g_bipush (pc := 115) dX9_tries_115 kb16 ?_
              refine g_icmpge 148 (pc := 117) dX9_tries_117 (by decide) (fun c117 => absurd c117 (nI_ge (b := 16) (by omega) (by omega))) (fun c117 => ?_)
              refine il8 (pc := 120) dX9_tries_120 ?_
              refine il4 (pc := 122) dX9_tries_122 ?_
              refine g_icmpge 148 (pc := 124) dX9_tries_124 (by decide) (fun c124 => ?_) (fun c124 => ?_)
              · skip
                exact J148 _ _ (by rw [← hG, cbL, if_pos c124]; exact ⟨rfl, rfl⟩)
              · skip
                refine il8 (pc := 127) dX9_tries_127 ?_
                refine al0 (pc := 129) dX9_tries_129 ?_
                refine il2 (pc := 130) dX9_tries_130 ?_
                refine il1 (pc := 131) dX9_tries_131 ?_
                refine il6 (pc := 132) dX9_tries_132 ?_
                refine il9 (pc := 134) dX9_tries_134 ?_
                refine cl_X9_83 (pc := 136) (c_X9_dotCost hm) hm.o9 (by decide) ⟨Nat.zero_le _, Nat.zero_le _⟩ (Nat.le_of_ble_eq_true rfl) dX9_tries_136 ?_
                rw [gA_tr]
                refine g_iadd (pc := 139) dX9_tries_139 ?_
                refine is8 (pc := 140) dX9_tries_140 rfl ?_
                refine ic9 (pc := 142) dX9_tries_142 kc1 rfl ?_
                refine g_goto 113 (pc := 145) dX9_tries_145 (by decide) ?_
                rw [nI_1]
                exact ih113 (i2 + 1) _ (by omega) (by rw [← hG, cbL, if_neg c124, nI_1])
          exact L113 16 0 _ (by omega) rfl
        refine g_ifeq 99 (pc := 80) dX9_tries_80 (by decide) (fun c80 => ?_) (fun c80 => ?_)
        · skip
          rw [mB_eq0] at c80
          refine g_iconst (pc := 99) dX9_tries_99 kc0 ?_
          exact J100 _ (by rw [mB_0 (fun h => c80 h.1)])
        · skip
          rw [mB_ne0] at c80
          refine al0 (pc := 83) dX9_tries_83 ?_
          refine il1 (pc := 84) dX9_tries_84 ?_
          refine il6 (pc := 85) dX9_tries_85 ?_
          refine cl_X9_102 (pc := 87) (c_X9_sumsOff hm) hm.o9 (by decide) ⟨Nat.zero_le _, Nat.zero_le _⟩ (Nat.le_of_ble_eq_true rfl) dX9_tries_87 ?_
          rw [gA_tr]
          refine il4 (pc := 90) dX9_tries_90 ?_
          refine g_icmplt 99 (pc := 92) dX9_tries_92 (by decide) (fun c92 => ?_) (fun c92 => ?_)
          · skip
            refine g_iconst (pc := 99) dX9_tries_99 kc0 ?_
            exact J100 _ (by rw [mB_0 (fun h => Int32.not_lt.mpr h.2 c92)])
          · skip
            refine g_iconst (pc := 95) dX9_tries_95 kc1 ?_
            refine g_goto 100 (pc := 96) dX9_tries_96 (by decide) ?_
            exact J100 _ (by rw [mB_1 ⟨c80, Int32.not_lt.mp c92⟩])
    exact L63 48 0 _ _ _ _ (by omega) rfl
  refine g_ifeq 23 (pc := 10) dX9_tries_10 (by decide) (fun c10 => ?_) (fun c10 => ?_)
  · skip
    refine g_iconst (pc := 23) dX9_tries_23 kc1 ?_
    refine g_goto 28 (pc := 24) dX9_tries_24 (by decide) ?_
    exact J28 _ (by simp [mB, sumP, c10])
  · skip
    refine il2 (pc := 13) dX9_tries_13 ?_
    refine g_iconst (pc := 14) dX9_tries_14 kc2 ?_
    refine g_icmpeq 23 (pc := 15) dX9_tries_15 (by decide) (fun c15 => ?_) (fun c15 => ?_)
    · skip
      refine g_iconst (pc := 23) dX9_tries_23 kc1 ?_
      refine g_goto 28 (pc := 24) dX9_tries_24 (by decide) ?_
      exact J28 _ (by simp [mB, sumP, c10, c15])
    · skip
      refine il2 (pc := 18) dX9_tries_18 ?_
      refine g_iconst (pc := 19) dX9_tries_19 kc3 ?_
      refine g_icmpne 27 (pc := 20) dX9_tries_20 (by decide) (fun c20 => ?_) (fun c20 => ?_)
      · skip
        refine g_iconst (pc := 27) dX9_tries_27 kc0 ?_
        exact J28 _ (by simp [mB, sumP, c10, c15, c20])
      · skip
        refine g_iconst (pc := 23) dX9_tries_23 kc1 ?_
        refine g_goto 28 (pc := 24) dX9_tries_24 (by decide) ?_
        exact J28 _ (by simp [mB, sumP, c10, c15, c20])
