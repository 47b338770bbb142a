theorem s_df_df {m : xM} {x : Nat → Int32} : (m.s_df x).df = x := id rfl
theorem s_df_wf {m : xM} {x : Nat → Int32} : (m.s_df x).wf = m.wf := id rfl
theorem s_df_st {m : xM} {x : Nat → Int32} : (m.s_df x).st = m.st := id rfl
theorem s_df_af {m : xM} {x : Nat → Int32} : (m.s_df x).af = m.af := id rfl
theorem s_df_cf {m : xM} {x : Nat → Int32} : (m.s_df x).cf = m.cf := id rfl
theorem s_df_ty {m : xM} {x : Nat → Int32} : (m.s_df x).ty = m.ty := id rfl
theorem s_df_pa {m : xM} {x : Nat → Int32} : (m.s_df x).pa = m.pa := id rfl
theorem s_df_le {m : xM} {x : Nat → Int32} : (m.s_df x).le = m.le := id rfl
theorem s_df_ri {m : xM} {x : Nat → Int32} : (m.s_df x).ri = m.ri := id rfl
theorem s_df_re {m : xM} {x : Nat → Int32} : (m.s_df x).re = m.re := id rfl
theorem s_df_rs {m : xM} {x : Nat → Int32} : (m.s_df x).rs = m.rs := id rfl
theorem s_df_nf {m : xM} {x : Nat → Int32} : (m.s_df x).nf = m.nf := id rfl
theorem s_df_wr {m : xM} {x : Nat → Int32} : (m.s_df x).wr = m.wr := id rfl
theorem s_df_wd {m : xM} {x : Nat → Int32} : (m.s_df x).wd = m.wd := id rfl
theorem s_df_mf {m : xM} {x : Nat → Int32} : (m.s_df x).mf = m.mf := id rfl
theorem s_df_vf {m : xM} {x : Nat → Int32} : (m.s_df x).vf = m.vf := id rfl
theorem s_df_be {m : xM} {x : Nat → Int32} : (m.s_df x).be = m.be := id rfl
theorem s_df_fa {m : xM} {x : Nat → Int32} : (m.s_df x).fa = m.fa := id rfl
theorem s_df_up {m : xM} {x : Nat → Int32} : (m.s_df x).up = m.up := id rfl
theorem s_df_dn {m : xM} {x : Nat → Int32} : (m.s_df x).dn = m.dn := id rfl
theorem s_wf_df {m : xM} {x : Nat → Int32} : (m.s_wf x).df = m.df := id rfl
theorem s_wf_wf {m : xM} {x : Nat → Int32} : (m.s_wf x).wf = x := id rfl
theorem s_wf_st {m : xM} {x : Nat → Int32} : (m.s_wf x).st = m.st := id rfl
theorem s_wf_af {m : xM} {x : Nat → Int32} : (m.s_wf x).af = m.af := id rfl
theorem s_wf_cf {m : xM} {x : Nat → Int32} : (m.s_wf x).cf = m.cf := id rfl
theorem s_wf_ty {m : xM} {x : Nat → Int32} : (m.s_wf x).ty = m.ty := id rfl
theorem s_wf_pa {m : xM} {x : Nat → Int32} : (m.s_wf x).pa = m.pa := id rfl
theorem s_wf_le {m : xM} {x : Nat → Int32} : (m.s_wf x).le = m.le := id rfl
theorem s_wf_ri {m : xM} {x : Nat → Int32} : (m.s_wf x).ri = m.ri := id rfl
theorem s_wf_re {m : xM} {x : Nat → Int32} : (m.s_wf x).re = m.re := id rfl
theorem s_wf_rs {m : xM} {x : Nat → Int32} : (m.s_wf x).rs = m.rs := id rfl
theorem s_wf_nf {m : xM} {x : Nat → Int32} : (m.s_wf x).nf = m.nf := id rfl
theorem s_wf_wr {m : xM} {x : Nat → Int32} : (m.s_wf x).wr = m.wr := id rfl
theorem s_wf_wd {m : xM} {x : Nat → Int32} : (m.s_wf x).wd = m.wd := id rfl
theorem s_wf_mf {m : xM} {x : Nat → Int32} : (m.s_wf x).mf = m.mf := id rfl
theorem s_wf_vf {m : xM} {x : Nat → Int32} : (m.s_wf x).vf = m.vf := id rfl
theorem s_wf_be {m : xM} {x : Nat → Int32} : (m.s_wf x).be = m.be := id rfl
theorem s_wf_fa {m : xM} {x : Nat → Int32} : (m.s_wf x).fa = m.fa := id rfl
theorem s_wf_up {m : xM} {x : Nat → Int32} : (m.s_wf x).up = m.up := id rfl
theorem s_wf_dn {m : xM} {x : Nat → Int32} : (m.s_wf x).dn = m.dn := id rfl
theorem s_st_df {m : xM} {x : Nat} : (m.s_st x).df = m.df := id rfl
theorem s_st_wf {m : xM} {x : Nat} : (m.s_st x).wf = m.wf := id rfl
theorem s_st_st {m : xM} {x : Nat} : (m.s_st x).st = x := id rfl
theorem s_st_af {m : xM} {x : Nat} : (m.s_st x).af = m.af := id rfl
theorem s_st_cf {m : xM} {x : Nat} : (m.s_st x).cf = m.cf := id rfl
theorem s_st_ty {m : xM} {x : Nat} : (m.s_st x).ty = m.ty := id rfl
theorem s_st_pa {m : xM} {x : Nat} : (m.s_st x).pa = m.pa := id rfl
theorem s_st_le {m : xM} {x : Nat} : (m.s_st x).le = m.le := id rfl
theorem s_st_ri {m : xM} {x : Nat} : (m.s_st x).ri = m.ri := id rfl
theorem s_st_re {m : xM} {x : Nat} : (m.s_st x).re = m.re := id rfl
theorem s_st_rs {m : xM} {x : Nat} : (m.s_st x).rs = m.rs := id rfl
theorem s_st_nf {m : xM} {x : Nat} : (m.s_st x).nf = m.nf := id rfl
theorem s_st_wr {m : xM} {x : Nat} : (m.s_st x).wr = m.wr := id rfl
theorem s_st_wd {m : xM} {x : Nat} : (m.s_st x).wd = m.wd := id rfl
theorem s_st_mf {m : xM} {x : Nat} : (m.s_st x).mf = m.mf := id rfl
theorem s_st_vf {m : xM} {x : Nat} : (m.s_st x).vf = m.vf := id rfl
theorem s_st_be {m : xM} {x : Nat} : (m.s_st x).be = m.be := id rfl
theorem s_st_fa {m : xM} {x : Nat} : (m.s_st x).fa = m.fa := id rfl
theorem s_st_up {m : xM} {x : Nat} : (m.s_st x).up = m.up := id rfl
theorem s_st_dn {m : xM} {x : Nat} : (m.s_st x).dn = m.dn := id rfl
theorem s_af_df {m : xM} {x : Nat → Int32} : (m.s_af x).df = m.df := id rfl
theorem s_af_wf {m : xM} {x : Nat → Int32} : (m.s_af x).wf = m.wf := id rfl
theorem s_af_st {m : xM} {x : Nat → Int32} : (m.s_af x).st = m.st := id rfl
theorem s_af_af {m : xM} {x : Nat → Int32} : (m.s_af x).af = x := id rfl
theorem s_af_cf {m : xM} {x : Nat → Int32} : (m.s_af x).cf = m.cf := id rfl
theorem s_af_ty {m : xM} {x : Nat → Int32} : (m.s_af x).ty = m.ty := id rfl
theorem s_af_pa {m : xM} {x : Nat → Int32} : (m.s_af x).pa = m.pa := id rfl
theorem s_af_le {m : xM} {x : Nat → Int32} : (m.s_af x).le = m.le := id rfl
theorem s_af_ri {m : xM} {x : Nat → Int32} : (m.s_af x).ri = m.ri := id rfl
theorem s_af_re {m : xM} {x : Nat → Int32} : (m.s_af x).re = m.re := id rfl
theorem s_af_rs {m : xM} {x : Nat → Int32} : (m.s_af x).rs = m.rs := id rfl
theorem s_af_nf {m : xM} {x : Nat → Int32} : (m.s_af x).nf = m.nf := id rfl
theorem s_af_wr {m : xM} {x : Nat → Int32} : (m.s_af x).wr = m.wr := id rfl
theorem s_af_wd {m : xM} {x : Nat → Int32} : (m.s_af x).wd = m.wd := id rfl
theorem s_af_mf {m : xM} {x : Nat → Int32} : (m.s_af x).mf = m.mf := id rfl
theorem s_af_vf {m : xM} {x : Nat → Int32} : (m.s_af x).vf = m.vf := id rfl
theorem s_af_be {m : xM} {x : Nat → Int32} : (m.s_af x).be = m.be := id rfl
theorem s_af_fa {m : xM} {x : Nat → Int32} : (m.s_af x).fa = m.fa := id rfl
theorem s_af_up {m : xM} {x : Nat → Int32} : (m.s_af x).up = m.up := id rfl
theorem s_af_dn {m : xM} {x : Nat → Int32} : (m.s_af x).dn = m.dn := id rfl
theorem s_cf_df {m : xM} {x : Nat → Int32} : (m.s_cf x).df = m.df := id rfl
theorem s_cf_wf {m : xM} {x : Nat → Int32} : (m.s_cf x).wf = m.wf := id rfl
theorem s_cf_st {m : xM} {x : Nat → Int32} : (m.s_cf x).st = m.st := id rfl
theorem s_cf_af {m : xM} {x : Nat → Int32} : (m.s_cf x).af = m.af := id rfl
theorem s_cf_cf {m : xM} {x : Nat → Int32} : (m.s_cf x).cf = x := id rfl
theorem s_cf_ty {m : xM} {x : Nat → Int32} : (m.s_cf x).ty = m.ty := id rfl
theorem s_cf_pa {m : xM} {x : Nat → Int32} : (m.s_cf x).pa = m.pa := id rfl
theorem s_cf_le {m : xM} {x : Nat → Int32} : (m.s_cf x).le = m.le := id rfl
theorem s_cf_ri {m : xM} {x : Nat → Int32} : (m.s_cf x).ri = m.ri := id rfl
theorem s_cf_re {m : xM} {x : Nat → Int32} : (m.s_cf x).re = m.re := id rfl
theorem s_cf_rs {m : xM} {x : Nat → Int32} : (m.s_cf x).rs = m.rs := id rfl
theorem s_cf_nf {m : xM} {x : Nat → Int32} : (m.s_cf x).nf = m.nf := id rfl
theorem s_cf_wr {m : xM} {x : Nat → Int32} : (m.s_cf x).wr = m.wr := id rfl
theorem s_cf_wd {m : xM} {x : Nat → Int32} : (m.s_cf x).wd = m.wd := id rfl
theorem s_cf_mf {m : xM} {x : Nat → Int32} : (m.s_cf x).mf = m.mf := id rfl
theorem s_cf_vf {m : xM} {x : Nat → Int32} : (m.s_cf x).vf = m.vf := id rfl
theorem s_cf_be {m : xM} {x : Nat → Int32} : (m.s_cf x).be = m.be := id rfl
theorem s_cf_fa {m : xM} {x : Nat → Int32} : (m.s_cf x).fa = m.fa := id rfl
theorem s_cf_up {m : xM} {x : Nat → Int32} : (m.s_cf x).up = m.up := id rfl
theorem s_cf_dn {m : xM} {x : Nat → Int32} : (m.s_cf x).dn = m.dn := id rfl
theorem s_ty_df {m : xM} {x : Nat} : (m.s_ty x).df = m.df := id rfl
theorem s_ty_wf {m : xM} {x : Nat} : (m.s_ty x).wf = m.wf := id rfl
theorem s_ty_st {m : xM} {x : Nat} : (m.s_ty x).st = m.st := id rfl
theorem s_ty_af {m : xM} {x : Nat} : (m.s_ty x).af = m.af := id rfl
theorem s_ty_cf {m : xM} {x : Nat} : (m.s_ty x).cf = m.cf := id rfl
theorem s_ty_ty {m : xM} {x : Nat} : (m.s_ty x).ty = x := id rfl
theorem s_ty_pa {m : xM} {x : Nat} : (m.s_ty x).pa = m.pa := id rfl
theorem s_ty_le {m : xM} {x : Nat} : (m.s_ty x).le = m.le := id rfl
theorem s_ty_ri {m : xM} {x : Nat} : (m.s_ty x).ri = m.ri := id rfl
theorem s_ty_re {m : xM} {x : Nat} : (m.s_ty x).re = m.re := id rfl
theorem s_ty_rs {m : xM} {x : Nat} : (m.s_ty x).rs = m.rs := id rfl
theorem s_ty_nf {m : xM} {x : Nat} : (m.s_ty x).nf = m.nf := id rfl
theorem s_ty_wr {m : xM} {x : Nat} : (m.s_ty x).wr = m.wr := id rfl
theorem s_ty_wd {m : xM} {x : Nat} : (m.s_ty x).wd = m.wd := id rfl
theorem s_ty_mf {m : xM} {x : Nat} : (m.s_ty x).mf = m.mf := id rfl
theorem s_ty_vf {m : xM} {x : Nat} : (m.s_ty x).vf = m.vf := id rfl
theorem s_ty_be {m : xM} {x : Nat} : (m.s_ty x).be = m.be := id rfl
theorem s_ty_fa {m : xM} {x : Nat} : (m.s_ty x).fa = m.fa := id rfl
theorem s_ty_up {m : xM} {x : Nat} : (m.s_ty x).up = m.up := id rfl
theorem s_ty_dn {m : xM} {x : Nat} : (m.s_ty x).dn = m.dn := id rfl
theorem s_pa_df {m : xM} {x : Int32} : (m.s_pa x).df = m.df := id rfl
theorem s_pa_wf {m : xM} {x : Int32} : (m.s_pa x).wf = m.wf := id rfl
theorem s_pa_st {m : xM} {x : Int32} : (m.s_pa x).st = m.st := id rfl
theorem s_pa_af {m : xM} {x : Int32} : (m.s_pa x).af = m.af := id rfl
theorem s_pa_cf {m : xM} {x : Int32} : (m.s_pa x).cf = m.cf := id rfl
theorem s_pa_ty {m : xM} {x : Int32} : (m.s_pa x).ty = m.ty := id rfl
theorem s_pa_pa {m : xM} {x : Int32} : (m.s_pa x).pa = x := id rfl
theorem s_pa_le {m : xM} {x : Int32} : (m.s_pa x).le = m.le := id rfl
theorem s_pa_ri {m : xM} {x : Int32} : (m.s_pa x).ri = m.ri := id rfl
theorem s_pa_re {m : xM} {x : Int32} : (m.s_pa x).re = m.re := id rfl
theorem s_pa_rs {m : xM} {x : Int32} : (m.s_pa x).rs = m.rs := id rfl
theorem s_pa_nf {m : xM} {x : Int32} : (m.s_pa x).nf = m.nf := id rfl
theorem s_pa_wr {m : xM} {x : Int32} : (m.s_pa x).wr = m.wr := id rfl
theorem s_pa_wd {m : xM} {x : Int32} : (m.s_pa x).wd = m.wd := id rfl
theorem s_pa_mf {m : xM} {x : Int32} : (m.s_pa x).mf = m.mf := id rfl
theorem s_pa_vf {m : xM} {x : Int32} : (m.s_pa x).vf = m.vf := id rfl
theorem s_pa_be {m : xM} {x : Int32} : (m.s_pa x).be = m.be := id rfl
theorem s_pa_fa {m : xM} {x : Int32} : (m.s_pa x).fa = m.fa := id rfl
theorem s_pa_up {m : xM} {x : Int32} : (m.s_pa x).up = m.up := id rfl
theorem s_pa_dn {m : xM} {x : Int32} : (m.s_pa x).dn = m.dn := id rfl
theorem s_le_df {m : xM} {x : Int32} : (m.s_le x).df = m.df := id rfl
theorem s_le_wf {m : xM} {x : Int32} : (m.s_le x).wf = m.wf := id rfl
theorem s_le_st {m : xM} {x : Int32} : (m.s_le x).st = m.st := id rfl
theorem s_le_af {m : xM} {x : Int32} : (m.s_le x).af = m.af := id rfl
theorem s_le_cf {m : xM} {x : Int32} : (m.s_le x).cf = m.cf := id rfl
theorem s_le_ty {m : xM} {x : Int32} : (m.s_le x).ty = m.ty := id rfl
theorem s_le_pa {m : xM} {x : Int32} : (m.s_le x).pa = m.pa := id rfl
theorem s_le_le {m : xM} {x : Int32} : (m.s_le x).le = x := id rfl
theorem s_le_ri {m : xM} {x : Int32} : (m.s_le x).ri = m.ri := id rfl
theorem s_le_re {m : xM} {x : Int32} : (m.s_le x).re = m.re := id rfl
theorem s_le_rs {m : xM} {x : Int32} : (m.s_le x).rs = m.rs := id rfl
theorem s_le_nf {m : xM} {x : Int32} : (m.s_le x).nf = m.nf := id rfl
theorem s_le_wr {m : xM} {x : Int32} : (m.s_le x).wr = m.wr := id rfl
theorem s_le_wd {m : xM} {x : Int32} : (m.s_le x).wd = m.wd := id rfl
theorem s_le_mf {m : xM} {x : Int32} : (m.s_le x).mf = m.mf := id rfl
theorem s_le_vf {m : xM} {x : Int32} : (m.s_le x).vf = m.vf := id rfl
theorem s_le_be {m : xM} {x : Int32} : (m.s_le x).be = m.be := id rfl
theorem s_le_fa {m : xM} {x : Int32} : (m.s_le x).fa = m.fa := id rfl
theorem s_le_up {m : xM} {x : Int32} : (m.s_le x).up = m.up := id rfl
theorem s_le_dn {m : xM} {x : Int32} : (m.s_le x).dn = m.dn := id rfl
theorem s_ri_df {m : xM} {x : Int32} : (m.s_ri x).df = m.df := id rfl
theorem s_ri_wf {m : xM} {x : Int32} : (m.s_ri x).wf = m.wf := id rfl
theorem s_ri_st {m : xM} {x : Int32} : (m.s_ri x).st = m.st := id rfl
theorem s_ri_af {m : xM} {x : Int32} : (m.s_ri x).af = m.af := id rfl
theorem s_ri_cf {m : xM} {x : Int32} : (m.s_ri x).cf = m.cf := id rfl
theorem s_ri_ty {m : xM} {x : Int32} : (m.s_ri x).ty = m.ty := id rfl
theorem s_ri_pa {m : xM} {x : Int32} : (m.s_ri x).pa = m.pa := id rfl
theorem s_ri_le {m : xM} {x : Int32} : (m.s_ri x).le = m.le := id rfl
theorem s_ri_ri {m : xM} {x : Int32} : (m.s_ri x).ri = x := id rfl
theorem s_ri_re {m : xM} {x : Int32} : (m.s_ri x).re = m.re := id rfl
theorem s_ri_rs {m : xM} {x : Int32} : (m.s_ri x).rs = m.rs := id rfl
theorem s_ri_nf {m : xM} {x : Int32} : (m.s_ri x).nf = m.nf := id rfl
theorem s_ri_wr {m : xM} {x : Int32} : (m.s_ri x).wr = m.wr := id rfl
theorem s_ri_wd {m : xM} {x : Int32} : (m.s_ri x).wd = m.wd := id rfl
theorem s_ri_mf {m : xM} {x : Int32} : (m.s_ri x).mf = m.mf := id rfl
theorem s_ri_vf {m : xM} {x : Int32} : (m.s_ri x).vf = m.vf := id rfl
theorem s_ri_be {m : xM} {x : Int32} : (m.s_ri x).be = m.be := id rfl
theorem s_ri_fa {m : xM} {x : Int32} : (m.s_ri x).fa = m.fa := id rfl
theorem s_ri_up {m : xM} {x : Int32} : (m.s_ri x).up = m.up := id rfl
theorem s_ri_dn {m : xM} {x : Int32} : (m.s_ri x).dn = m.dn := id rfl
theorem s_re_df {m : xM} {x : Int32} : (m.s_re x).df = m.df := id rfl
theorem s_re_wf {m : xM} {x : Int32} : (m.s_re x).wf = m.wf := id rfl
theorem s_re_st {m : xM} {x : Int32} : (m.s_re x).st = m.st := id rfl
theorem s_re_af {m : xM} {x : Int32} : (m.s_re x).af = m.af := id rfl
theorem s_re_cf {m : xM} {x : Int32} : (m.s_re x).cf = m.cf := id rfl
theorem s_re_ty {m : xM} {x : Int32} : (m.s_re x).ty = m.ty := id rfl
theorem s_re_pa {m : xM} {x : Int32} : (m.s_re x).pa = m.pa := id rfl
theorem s_re_le {m : xM} {x : Int32} : (m.s_re x).le = m.le := id rfl
theorem s_re_ri {m : xM} {x : Int32} : (m.s_re x).ri = m.ri := id rfl
theorem s_re_re {m : xM} {x : Int32} : (m.s_re x).re = x := id rfl
theorem s_re_rs {m : xM} {x : Int32} : (m.s_re x).rs = m.rs := id rfl
theorem s_re_nf {m : xM} {x : Int32} : (m.s_re x).nf = m.nf := id rfl
theorem s_re_wr {m : xM} {x : Int32} : (m.s_re x).wr = m.wr := id rfl
theorem s_re_wd {m : xM} {x : Int32} : (m.s_re x).wd = m.wd := id rfl
theorem s_re_mf {m : xM} {x : Int32} : (m.s_re x).mf = m.mf := id rfl
theorem s_re_vf {m : xM} {x : Int32} : (m.s_re x).vf = m.vf := id rfl
theorem s_re_be {m : xM} {x : Int32} : (m.s_re x).be = m.be := id rfl
theorem s_re_fa {m : xM} {x : Int32} : (m.s_re x).fa = m.fa := id rfl
theorem s_re_up {m : xM} {x : Int32} : (m.s_re x).up = m.up := id rfl
theorem s_re_dn {m : xM} {x : Int32} : (m.s_re x).dn = m.dn := id rfl
theorem s_rs_df {m : xM} {x : Int32} : (m.s_rs x).df = m.df := id rfl
theorem s_rs_wf {m : xM} {x : Int32} : (m.s_rs x).wf = m.wf := id rfl
theorem s_rs_st {m : xM} {x : Int32} : (m.s_rs x).st = m.st := id rfl
theorem s_rs_af {m : xM} {x : Int32} : (m.s_rs x).af = m.af := id rfl
theorem s_rs_cf {m : xM} {x : Int32} : (m.s_rs x).cf = m.cf := id rfl
theorem s_rs_ty {m : xM} {x : Int32} : (m.s_rs x).ty = m.ty := id rfl
theorem s_rs_pa {m : xM} {x : Int32} : (m.s_rs x).pa = m.pa := id rfl
theorem s_rs_le {m : xM} {x : Int32} : (m.s_rs x).le = m.le := id rfl
theorem s_rs_ri {m : xM} {x : Int32} : (m.s_rs x).ri = m.ri := id rfl
theorem s_rs_re {m : xM} {x : Int32} : (m.s_rs x).re = m.re := id rfl
theorem s_rs_rs {m : xM} {x : Int32} : (m.s_rs x).rs = x := id rfl
theorem s_rs_nf {m : xM} {x : Int32} : (m.s_rs x).nf = m.nf := id rfl
theorem s_rs_wr {m : xM} {x : Int32} : (m.s_rs x).wr = m.wr := id rfl
theorem s_rs_wd {m : xM} {x : Int32} : (m.s_rs x).wd = m.wd := id rfl
theorem s_rs_mf {m : xM} {x : Int32} : (m.s_rs x).mf = m.mf := id rfl
theorem s_rs_vf {m : xM} {x : Int32} : (m.s_rs x).vf = m.vf := id rfl
theorem s_rs_be {m : xM} {x : Int32} : (m.s_rs x).be = m.be := id rfl
theorem s_rs_fa {m : xM} {x : Int32} : (m.s_rs x).fa = m.fa := id rfl
theorem s_rs_up {m : xM} {x : Int32} : (m.s_rs x).up = m.up := id rfl
theorem s_rs_dn {m : xM} {x : Int32} : (m.s_rs x).dn = m.dn := id rfl
theorem s_nf_df {m : xM} {x : Nat → Int64} : (m.s_nf x).df = m.df := id rfl
theorem s_nf_wf {m : xM} {x : Nat → Int64} : (m.s_nf x).wf = m.wf := id rfl
theorem s_nf_st {m : xM} {x : Nat → Int64} : (m.s_nf x).st = m.st := id rfl
theorem s_nf_af {m : xM} {x : Nat → Int64} : (m.s_nf x).af = m.af := id rfl
theorem s_nf_cf {m : xM} {x : Nat → Int64} : (m.s_nf x).cf = m.cf := id rfl
theorem s_nf_ty {m : xM} {x : Nat → Int64} : (m.s_nf x).ty = m.ty := id rfl
theorem s_nf_pa {m : xM} {x : Nat → Int64} : (m.s_nf x).pa = m.pa := id rfl
theorem s_nf_le {m : xM} {x : Nat → Int64} : (m.s_nf x).le = m.le := id rfl
theorem s_nf_ri {m : xM} {x : Nat → Int64} : (m.s_nf x).ri = m.ri := id rfl
theorem s_nf_re {m : xM} {x : Nat → Int64} : (m.s_nf x).re = m.re := id rfl
theorem s_nf_rs {m : xM} {x : Nat → Int64} : (m.s_nf x).rs = m.rs := id rfl
theorem s_nf_nf {m : xM} {x : Nat → Int64} : (m.s_nf x).nf = x := id rfl
theorem s_nf_wr {m : xM} {x : Nat → Int64} : (m.s_nf x).wr = m.wr := id rfl
theorem s_nf_wd {m : xM} {x : Nat → Int64} : (m.s_nf x).wd = m.wd := id rfl
theorem s_nf_mf {m : xM} {x : Nat → Int64} : (m.s_nf x).mf = m.mf := id rfl
theorem s_nf_vf {m : xM} {x : Nat → Int64} : (m.s_nf x).vf = m.vf := id rfl
theorem s_nf_be {m : xM} {x : Nat → Int64} : (m.s_nf x).be = m.be := id rfl
theorem s_nf_fa {m : xM} {x : Nat → Int64} : (m.s_nf x).fa = m.fa := id rfl
theorem s_nf_up {m : xM} {x : Nat → Int64} : (m.s_nf x).up = m.up := id rfl
theorem s_nf_dn {m : xM} {x : Nat → Int64} : (m.s_nf x).dn = m.dn := id rfl
theorem s_wr_df {m : xM} {x : Int32} : (m.s_wr x).df = m.df := id rfl
theorem s_wr_wf {m : xM} {x : Int32} : (m.s_wr x).wf = m.wf := id rfl
theorem s_wr_st {m : xM} {x : Int32} : (m.s_wr x).st = m.st := id rfl
theorem s_wr_af {m : xM} {x : Int32} : (m.s_wr x).af = m.af := id rfl
theorem s_wr_cf {m : xM} {x : Int32} : (m.s_wr x).cf = m.cf := id rfl
theorem s_wr_ty {m : xM} {x : Int32} : (m.s_wr x).ty = m.ty := id rfl
theorem s_wr_pa {m : xM} {x : Int32} : (m.s_wr x).pa = m.pa := id rfl
theorem s_wr_le {m : xM} {x : Int32} : (m.s_wr x).le = m.le := id rfl
theorem s_wr_ri {m : xM} {x : Int32} : (m.s_wr x).ri = m.ri := id rfl
theorem s_wr_re {m : xM} {x : Int32} : (m.s_wr x).re = m.re := id rfl
theorem s_wr_rs {m : xM} {x : Int32} : (m.s_wr x).rs = m.rs := id rfl
theorem s_wr_nf {m : xM} {x : Int32} : (m.s_wr x).nf = m.nf := id rfl
theorem s_wr_wr {m : xM} {x : Int32} : (m.s_wr x).wr = x := id rfl
theorem s_wr_wd {m : xM} {x : Int32} : (m.s_wr x).wd = m.wd := id rfl
theorem s_wr_mf {m : xM} {x : Int32} : (m.s_wr x).mf = m.mf := id rfl
theorem s_wr_vf {m : xM} {x : Int32} : (m.s_wr x).vf = m.vf := id rfl
theorem s_wr_be {m : xM} {x : Int32} : (m.s_wr x).be = m.be := id rfl
theorem s_wr_fa {m : xM} {x : Int32} : (m.s_wr x).fa = m.fa := id rfl
theorem s_wr_up {m : xM} {x : Int32} : (m.s_wr x).up = m.up := id rfl
theorem s_wr_dn {m : xM} {x : Int32} : (m.s_wr x).dn = m.dn := id rfl
theorem s_wd_df {m : xM} {x : Int32} : (m.s_wd x).df = m.df := id rfl
theorem s_wd_wf {m : xM} {x : Int32} : (m.s_wd x).wf = m.wf := id rfl
theorem s_wd_st {m : xM} {x : Int32} : (m.s_wd x).st = m.st := id rfl
theorem s_wd_af {m : xM} {x : Int32} : (m.s_wd x).af = m.af := id rfl
theorem s_wd_cf {m : xM} {x : Int32} : (m.s_wd x).cf = m.cf := id rfl
theorem s_wd_ty {m : xM} {x : Int32} : (m.s_wd x).ty = m.ty := id rfl
theorem s_wd_pa {m : xM} {x : Int32} : (m.s_wd x).pa = m.pa := id rfl
theorem s_wd_le {m : xM} {x : Int32} : (m.s_wd x).le = m.le := id rfl
theorem s_wd_ri {m : xM} {x : Int32} : (m.s_wd x).ri = m.ri := id rfl
theorem s_wd_re {m : xM} {x : Int32} : (m.s_wd x).re = m.re := id rfl
theorem s_wd_rs {m : xM} {x : Int32} : (m.s_wd x).rs = m.rs := id rfl
theorem s_wd_nf {m : xM} {x : Int32} : (m.s_wd x).nf = m.nf := id rfl
theorem s_wd_wr {m : xM} {x : Int32} : (m.s_wd x).wr = m.wr := id rfl
theorem s_wd_wd {m : xM} {x : Int32} : (m.s_wd x).wd = x := id rfl
theorem s_wd_mf {m : xM} {x : Int32} : (m.s_wd x).mf = m.mf := id rfl
theorem s_wd_vf {m : xM} {x : Int32} : (m.s_wd x).vf = m.vf := id rfl
theorem s_wd_be {m : xM} {x : Int32} : (m.s_wd x).be = m.be := id rfl
theorem s_wd_fa {m : xM} {x : Int32} : (m.s_wd x).fa = m.fa := id rfl
theorem s_wd_up {m : xM} {x : Int32} : (m.s_wd x).up = m.up := id rfl
theorem s_wd_dn {m : xM} {x : Int32} : (m.s_wd x).dn = m.dn := id rfl
theorem s_mf_df {m : xM} {x : Nat → Int64} : (m.s_mf x).df = m.df := id rfl
theorem s_mf_wf {m : xM} {x : Nat → Int64} : (m.s_mf x).wf = m.wf := id rfl
theorem s_mf_st {m : xM} {x : Nat → Int64} : (m.s_mf x).st = m.st := id rfl
theorem s_mf_af {m : xM} {x : Nat → Int64} : (m.s_mf x).af = m.af := id rfl
theorem s_mf_cf {m : xM} {x : Nat → Int64} : (m.s_mf x).cf = m.cf := id rfl
theorem s_mf_ty {m : xM} {x : Nat → Int64} : (m.s_mf x).ty = m.ty := id rfl
theorem s_mf_pa {m : xM} {x : Nat → Int64} : (m.s_mf x).pa = m.pa := id rfl
theorem s_mf_le {m : xM} {x : Nat → Int64} : (m.s_mf x).le = m.le := id rfl
theorem s_mf_ri {m : xM} {x : Nat → Int64} : (m.s_mf x).ri = m.ri := id rfl
theorem s_mf_re {m : xM} {x : Nat → Int64} : (m.s_mf x).re = m.re := id rfl
theorem s_mf_rs {m : xM} {x : Nat → Int64} : (m.s_mf x).rs = m.rs := id rfl
theorem s_mf_nf {m : xM} {x : Nat → Int64} : (m.s_mf x).nf = m.nf := id rfl
theorem s_mf_wr {m : xM} {x : Nat → Int64} : (m.s_mf x).wr = m.wr := id rfl
theorem s_mf_wd {m : xM} {x : Nat → Int64} : (m.s_mf x).wd = m.wd := id rfl
theorem s_mf_mf {m : xM} {x : Nat → Int64} : (m.s_mf x).mf = x := id rfl
theorem s_mf_vf {m : xM} {x : Nat → Int64} : (m.s_mf x).vf = m.vf := id rfl
theorem s_mf_be {m : xM} {x : Nat → Int64} : (m.s_mf x).be = m.be := id rfl
theorem s_mf_fa {m : xM} {x : Nat → Int64} : (m.s_mf x).fa = m.fa := id rfl
theorem s_mf_up {m : xM} {x : Nat → Int64} : (m.s_mf x).up = m.up := id rfl
theorem s_mf_dn {m : xM} {x : Nat → Int64} : (m.s_mf x).dn = m.dn := id rfl
theorem s_vf_df {m : xM} {x : Nat → Int64} : (m.s_vf x).df = m.df := id rfl
theorem s_vf_wf {m : xM} {x : Nat → Int64} : (m.s_vf x).wf = m.wf := id rfl
theorem s_vf_st {m : xM} {x : Nat → Int64} : (m.s_vf x).st = m.st := id rfl
theorem s_vf_af {m : xM} {x : Nat → Int64} : (m.s_vf x).af = m.af := id rfl
theorem s_vf_cf {m : xM} {x : Nat → Int64} : (m.s_vf x).cf = m.cf := id rfl
theorem s_vf_ty {m : xM} {x : Nat → Int64} : (m.s_vf x).ty = m.ty := id rfl
theorem s_vf_pa {m : xM} {x : Nat → Int64} : (m.s_vf x).pa = m.pa := id rfl
theorem s_vf_le {m : xM} {x : Nat → Int64} : (m.s_vf x).le = m.le := id rfl
theorem s_vf_ri {m : xM} {x : Nat → Int64} : (m.s_vf x).ri = m.ri := id rfl
theorem s_vf_re {m : xM} {x : Nat → Int64} : (m.s_vf x).re = m.re := id rfl
theorem s_vf_rs {m : xM} {x : Nat → Int64} : (m.s_vf x).rs = m.rs := id rfl
theorem s_vf_nf {m : xM} {x : Nat → Int64} : (m.s_vf x).nf = m.nf := id rfl
theorem s_vf_wr {m : xM} {x : Nat → Int64} : (m.s_vf x).wr = m.wr := id rfl
theorem s_vf_wd {m : xM} {x : Nat → Int64} : (m.s_vf x).wd = m.wd := id rfl
theorem s_vf_mf {m : xM} {x : Nat → Int64} : (m.s_vf x).mf = m.mf := id rfl
theorem s_vf_vf {m : xM} {x : Nat → Int64} : (m.s_vf x).vf = x := id rfl
theorem s_vf_be {m : xM} {x : Nat → Int64} : (m.s_vf x).be = m.be := id rfl
theorem s_vf_fa {m : xM} {x : Nat → Int64} : (m.s_vf x).fa = m.fa := id rfl
theorem s_vf_up {m : xM} {x : Nat → Int64} : (m.s_vf x).up = m.up := id rfl
theorem s_vf_dn {m : xM} {x : Nat → Int64} : (m.s_vf x).dn = m.dn := id rfl
theorem s_be_df {m : xM} {x : Int64} : (m.s_be x).df = m.df := id rfl
theorem s_be_wf {m : xM} {x : Int64} : (m.s_be x).wf = m.wf := id rfl
theorem s_be_st {m : xM} {x : Int64} : (m.s_be x).st = m.st := id rfl
theorem s_be_af {m : xM} {x : Int64} : (m.s_be x).af = m.af := id rfl
theorem s_be_cf {m : xM} {x : Int64} : (m.s_be x).cf = m.cf := id rfl
theorem s_be_ty {m : xM} {x : Int64} : (m.s_be x).ty = m.ty := id rfl
theorem s_be_pa {m : xM} {x : Int64} : (m.s_be x).pa = m.pa := id rfl
theorem s_be_le {m : xM} {x : Int64} : (m.s_be x).le = m.le := id rfl
theorem s_be_ri {m : xM} {x : Int64} : (m.s_be x).ri = m.ri := id rfl
theorem s_be_re {m : xM} {x : Int64} : (m.s_be x).re = m.re := id rfl
theorem s_be_rs {m : xM} {x : Int64} : (m.s_be x).rs = m.rs := id rfl
theorem s_be_nf {m : xM} {x : Int64} : (m.s_be x).nf = m.nf := id rfl
theorem s_be_wr {m : xM} {x : Int64} : (m.s_be x).wr = m.wr := id rfl
theorem s_be_wd {m : xM} {x : Int64} : (m.s_be x).wd = m.wd := id rfl
theorem s_be_mf {m : xM} {x : Int64} : (m.s_be x).mf = m.mf := id rfl
theorem s_be_vf {m : xM} {x : Int64} : (m.s_be x).vf = m.vf := id rfl
theorem s_be_be {m : xM} {x : Int64} : (m.s_be x).be = x := id rfl
theorem s_be_fa {m : xM} {x : Int64} : (m.s_be x).fa = m.fa := id rfl
theorem s_be_up {m : xM} {x : Int64} : (m.s_be x).up = m.up := id rfl
theorem s_be_dn {m : xM} {x : Int64} : (m.s_be x).dn = m.dn := id rfl
theorem s_fa_df {m : xM} {x : Nat → Int32} : (m.s_fa x).df = m.df := id rfl
theorem s_fa_wf {m : xM} {x : Nat → Int32} : (m.s_fa x).wf = m.wf := id rfl
theorem s_fa_st {m : xM} {x : Nat → Int32} : (m.s_fa x).st = m.st := id rfl
theorem s_fa_af {m : xM} {x : Nat → Int32} : (m.s_fa x).af = m.af := id rfl
theorem s_fa_cf {m : xM} {x : Nat → Int32} : (m.s_fa x).cf = m.cf := id rfl
theorem s_fa_ty {m : xM} {x : Nat → Int32} : (m.s_fa x).ty = m.ty := id rfl
theorem s_fa_pa {m : xM} {x : Nat → Int32} : (m.s_fa x).pa = m.pa := id rfl
theorem s_fa_le {m : xM} {x : Nat → Int32} : (m.s_fa x).le = m.le := id rfl
theorem s_fa_ri {m : xM} {x : Nat → Int32} : (m.s_fa x).ri = m.ri := id rfl
theorem s_fa_re {m : xM} {x : Nat → Int32} : (m.s_fa x).re = m.re := id rfl
theorem s_fa_rs {m : xM} {x : Nat → Int32} : (m.s_fa x).rs = m.rs := id rfl
theorem s_fa_nf {m : xM} {x : Nat → Int32} : (m.s_fa x).nf = m.nf := id rfl
theorem s_fa_wr {m : xM} {x : Nat → Int32} : (m.s_fa x).wr = m.wr := id rfl
theorem s_fa_wd {m : xM} {x : Nat → Int32} : (m.s_fa x).wd = m.wd := id rfl
theorem s_fa_mf {m : xM} {x : Nat → Int32} : (m.s_fa x).mf = m.mf := id rfl
theorem s_fa_vf {m : xM} {x : Nat → Int32} : (m.s_fa x).vf = m.vf := id rfl
theorem s_fa_be {m : xM} {x : Nat → Int32} : (m.s_fa x).be = m.be := id rfl
theorem s_fa_fa {m : xM} {x : Nat → Int32} : (m.s_fa x).fa = x := id rfl
theorem s_fa_up {m : xM} {x : Nat → Int32} : (m.s_fa x).up = m.up := id rfl
theorem s_fa_dn {m : xM} {x : Nat → Int32} : (m.s_fa x).dn = m.dn := id rfl
theorem s_up_df {m : xM} {x : Int64} : (m.s_up x).df = m.df := id rfl
theorem s_up_wf {m : xM} {x : Int64} : (m.s_up x).wf = m.wf := id rfl
theorem s_up_st {m : xM} {x : Int64} : (m.s_up x).st = m.st := id rfl
theorem s_up_af {m : xM} {x : Int64} : (m.s_up x).af = m.af := id rfl
theorem s_up_cf {m : xM} {x : Int64} : (m.s_up x).cf = m.cf := id rfl
theorem s_up_ty {m : xM} {x : Int64} : (m.s_up x).ty = m.ty := id rfl
theorem s_up_pa {m : xM} {x : Int64} : (m.s_up x).pa = m.pa := id rfl
theorem s_up_le {m : xM} {x : Int64} : (m.s_up x).le = m.le := id rfl
theorem s_up_ri {m : xM} {x : Int64} : (m.s_up x).ri = m.ri := id rfl
theorem s_up_re {m : xM} {x : Int64} : (m.s_up x).re = m.re := id rfl
theorem s_up_rs {m : xM} {x : Int64} : (m.s_up x).rs = m.rs := id rfl
theorem s_up_nf {m : xM} {x : Int64} : (m.s_up x).nf = m.nf := id rfl
theorem s_up_wr {m : xM} {x : Int64} : (m.s_up x).wr = m.wr := id rfl
theorem s_up_wd {m : xM} {x : Int64} : (m.s_up x).wd = m.wd := id rfl
theorem s_up_mf {m : xM} {x : Int64} : (m.s_up x).mf = m.mf := id rfl
theorem s_up_vf {m : xM} {x : Int64} : (m.s_up x).vf = m.vf := id rfl
theorem s_up_be {m : xM} {x : Int64} : (m.s_up x).be = m.be := id rfl
theorem s_up_fa {m : xM} {x : Int64} : (m.s_up x).fa = m.fa := id rfl
theorem s_up_up {m : xM} {x : Int64} : (m.s_up x).up = x := id rfl
theorem s_up_dn {m : xM} {x : Int64} : (m.s_up x).dn = m.dn := id rfl
theorem s_dn_df {m : xM} {x : Int64} : (m.s_dn x).df = m.df := id rfl
theorem s_dn_wf {m : xM} {x : Int64} : (m.s_dn x).wf = m.wf := id rfl
theorem s_dn_st {m : xM} {x : Int64} : (m.s_dn x).st = m.st := id rfl
theorem s_dn_af {m : xM} {x : Int64} : (m.s_dn x).af = m.af := id rfl
theorem s_dn_cf {m : xM} {x : Int64} : (m.s_dn x).cf = m.cf := id rfl
theorem s_dn_ty {m : xM} {x : Int64} : (m.s_dn x).ty = m.ty := id rfl
theorem s_dn_pa {m : xM} {x : Int64} : (m.s_dn x).pa = m.pa := id rfl
theorem s_dn_le {m : xM} {x : Int64} : (m.s_dn x).le = m.le := id rfl
theorem s_dn_ri {m : xM} {x : Int64} : (m.s_dn x).ri = m.ri := id rfl
theorem s_dn_re {m : xM} {x : Int64} : (m.s_dn x).re = m.re := id rfl
theorem s_dn_rs {m : xM} {x : Int64} : (m.s_dn x).rs = m.rs := id rfl
theorem s_dn_nf {m : xM} {x : Int64} : (m.s_dn x).nf = m.nf := id rfl
theorem s_dn_wr {m : xM} {x : Int64} : (m.s_dn x).wr = m.wr := id rfl
theorem s_dn_wd {m : xM} {x : Int64} : (m.s_dn x).wd = m.wd := id rfl
theorem s_dn_mf {m : xM} {x : Int64} : (m.s_dn x).mf = m.mf := id rfl
theorem s_dn_vf {m : xM} {x : Int64} : (m.s_dn x).vf = m.vf := id rfl
theorem s_dn_be {m : xM} {x : Int64} : (m.s_dn x).be = m.be := id rfl
theorem s_dn_fa {m : xM} {x : Int64} : (m.s_dn x).fa = m.fa := id rfl
theorem s_dn_up {m : xM} {x : Int64} : (m.s_dn x).up = m.up := id rfl
theorem s_dn_dn {m : xM} {x : Int64} : (m.s_dn x).dn = x := id rfl
theorem isM.s51 {w : xW} {m m' : xM} (D : isM w m) (e : (m'.df, m'.wf, m'.af, m'.cf, m'.nf, m'.mf, m'.vf, m'.fa) = (m.df, m.wf, m.af, m.cf, m.nf, m.mf, m.vf, m.fa)) : isM (wr w 51 (oM m')) m' := by
  obtain ⟨h0, h1, h2, h3, h4, h5, h6, h7, h8⟩ := D
  simp only [Prod.mk.injEq] at e
  obtain ⟨e1, e2, e3, e4, e5, e6, e7, e8⟩ := e
  rw [← e1] at h1
  rw [← e2] at h2
  rw [← e3] at h3
  rw [← e4] at h4
  rw [← e5] at h5
  rw [← e6] at h6
  rw [← e7] at h7
  rw [← e8] at h8
  exact ⟨rd_s, (rd_n (by omega)).trans h1, (rd_n (by omega)).trans h2, (rd_n (by omega)).trans h3, (rd_n (by omega)).trans h4, (rd_n (by omega)).trans h5, (rd_n (by omega)).trans h6, (rd_n (by omega)).trans h7, (rd_n (by omega)).trans h8⟩
theorem isM.s52 {w : xW} {m : xM} {f : Nat → Int32} (D : isM w m) : isM (wr w 52 (.inl (0, 112, .inl f))) (m.s_df f) := by
  obtain ⟨h0, h1, h2, h3, h4, h5, h6, h7, h8⟩ := D
  exact ⟨(rd_n (by omega)).trans h0, rd_s, (rd_n (by omega)).trans h2, (rd_n (by omega)).trans h3, (rd_n (by omega)).trans h4, (rd_n (by omega)).trans h5, (rd_n (by omega)).trans h6, (rd_n (by omega)).trans h7, (rd_n (by omega)).trans h8⟩
theorem isM.s53 {w : xW} {m : xM} {f : Nat → Int32} (D : isM w m) : isM (wr w 53 (.inl (0, 560, .inl f))) (m.s_wf f) := by
  obtain ⟨h0, h1, h2, h3, h4, h5, h6, h7, h8⟩ := D
  exact ⟨(rd_n (by omega)).trans h0, (rd_n (by omega)).trans h1, rd_s, (rd_n (by omega)).trans h3, (rd_n (by omega)).trans h4, (rd_n (by omega)).trans h5, (rd_n (by omega)).trans h6, (rd_n (by omega)).trans h7, (rd_n (by omega)).trans h8⟩
theorem isM.s54 {w : xW} {m : xM} {f : Nat → Int32} (D : isM w m) : isM (wr w 54 (.inl (0, 112, .inl f))) (m.s_af f) := by
  obtain ⟨h0, h1, h2, h3, h4, h5, h6, h7, h8⟩ := D
  exact ⟨(rd_n (by omega)).trans h0, (rd_n (by omega)).trans h1, (rd_n (by omega)).trans h2, rd_s, (rd_n (by omega)).trans h4, (rd_n (by omega)).trans h5, (rd_n (by omega)).trans h6, (rd_n (by omega)).trans h7, (rd_n (by omega)).trans h8⟩
theorem isM.s55 {w : xW} {m : xM} {f : Nat → Int32} (D : isM w m) : isM (wr w 55 (.inl (2, 80, .inl f))) (m.s_cf f) := by
  obtain ⟨h0, h1, h2, h3, h4, h5, h6, h7, h8⟩ := D
  exact ⟨(rd_n (by omega)).trans h0, (rd_n (by omega)).trans h1, (rd_n (by omega)).trans h2, (rd_n (by omega)).trans h3, rd_s, (rd_n (by omega)).trans h5, (rd_n (by omega)).trans h6, (rd_n (by omega)).trans h7, (rd_n (by omega)).trans h8⟩
theorem isM.s56 {w : xW} {m : xM} {f : Nat → Int64} (D : isM w m) : isM (wr w 56 (.inl (1, 30, .inr (.inl f)))) (m.s_nf f) := by
  obtain ⟨h0, h1, h2, h3, h4, h5, h6, h7, h8⟩ := D
  exact ⟨(rd_n (by omega)).trans h0, (rd_n (by omega)).trans h1, (rd_n (by omega)).trans h2, (rd_n (by omega)).trans h3, (rd_n (by omega)).trans h4, rd_s, (rd_n (by omega)).trans h6, (rd_n (by omega)).trans h7, (rd_n (by omega)).trans h8⟩
theorem isM.s57 {w : xW} {m : xM} {f : Nat → Int64} (D : isM w m) : isM (wr w 57 (.inl (1, 32, .inr (.inl f)))) (m.s_mf f) := by
  obtain ⟨h0, h1, h2, h3, h4, h5, h6, h7, h8⟩ := D
  exact ⟨(rd_n (by omega)).trans h0, (rd_n (by omega)).trans h1, (rd_n (by omega)).trans h2, (rd_n (by omega)).trans h3, (rd_n (by omega)).trans h4, (rd_n (by omega)).trans h5, rd_s, (rd_n (by omega)).trans h7, (rd_n (by omega)).trans h8⟩
theorem isM.s58 {w : xW} {m : xM} {f : Nat → Int64} (D : isM w m) : isM (wr w 58 (.inl (1, 5, .inr (.inl f)))) (m.s_vf f) := by
  obtain ⟨h0, h1, h2, h3, h4, h5, h6, h7, h8⟩ := D
  exact ⟨(rd_n (by omega)).trans h0, (rd_n (by omega)).trans h1, (rd_n (by omega)).trans h2, (rd_n (by omega)).trans h3, (rd_n (by omega)).trans h4, (rd_n (by omega)).trans h5, (rd_n (by omega)).trans h6, rd_s, (rd_n (by omega)).trans h8⟩
theorem isM.s59 {w : xW} {m : xM} {f : Nat → Int32} (D : isM w m) : isM (wr w 59 (.inl (0, 5, .inl f))) (m.s_fa f) := by
  obtain ⟨h0, h1, h2, h3, h4, h5, h6, h7, h8⟩ := D
  exact ⟨(rd_n (by omega)).trans h0, (rd_n (by omega)).trans h1, (rd_n (by omega)).trans h2, (rd_n (by omega)).trans h3, (rd_n (by omega)).trans h4, (rd_n (by omega)).trans h5, (rd_n (by omega)).trans h6, (rd_n (by omega)).trans h7, rd_s⟩
theorem isM.ud {w : xW} {m : xM} (D : isM w m) (u z : Int64) : isM (wr (wr w 51 (.inr (6, [.ref 52, .ref 53, .int (nI m.st), .ref 54, .ref 55, .int (nI m.ty), .int m.pa, .int m.le, .int m.ri, .int m.re, .int m.rs, .ref 56, .int m.wr, .int m.wd, .ref 57, .ref 58, .long m.be, .ref 59, .long u, .long m.dn]))) 51 (.inr (6, [.ref 52, .ref 53, .int (nI m.st), .ref 54, .ref 55, .int (nI m.ty), .int m.pa, .int m.le, .int m.ri, .int m.re, .int m.rs, .ref 56, .int m.wr, .int m.wd, .ref 57, .ref 58, .long m.be, .ref 59, .long u, .long z]))) ((m.s_up u).s_dn z) := by
  have D1 : isM (wr w 51 (oM (m.s_up u))) (m.s_up u) := D.s51 (by simp only [s_up_df, s_up_wf, s_up_st, s_up_af, s_up_cf, s_up_ty, s_up_pa, s_up_le, s_up_ri, s_up_re, s_up_rs, s_up_nf, s_up_wr, s_up_wd, s_up_mf, s_up_vf, s_up_be, s_up_fa, s_up_up, s_up_dn])
  have D2 : isM (wr (wr w 51 (oM (m.s_up u))) 51 (oM ((m.s_up u).s_dn z))) ((m.s_up u).s_dn z) := D1.s51 (by simp only [s_dn_df, s_dn_wf, s_dn_st, s_dn_af, s_dn_cf, s_dn_ty, s_dn_pa, s_dn_le, s_dn_ri, s_dn_re, s_dn_rs, s_dn_nf, s_dn_wr, s_dn_wd, s_dn_mf, s_dn_vf, s_dn_be, s_dn_fa, s_dn_up, s_dn_dn])
  simp only [oM, s_up_df, s_up_wf, s_up_st, s_up_af, s_up_cf, s_up_ty, s_up_pa, s_up_le, s_up_ri, s_up_re, s_up_rs, s_up_nf, s_up_wr, s_up_wd, s_up_mf, s_up_vf, s_up_be, s_up_fa, s_up_up, s_up_dn, s_dn_df, s_dn_wf, s_dn_st, s_dn_af, s_dn_cf, s_dn_ty, s_dn_pa, s_dn_le, s_dn_ri, s_dn_re, s_dn_rs, s_dn_nf, s_dn_wr, s_dn_wd, s_dn_mf, s_dn_vf, s_dn_be, s_dn_fa, s_dn_up, s_dn_dn] at D2
  exact D2
section MR3
variable {w : xW} {b : Nat} {m : xM} {n : Nat} {Q : Option Value → xW → Prop}
theorem l99 {x d : Int64} : ∀ (k : Nat) (x5 x7 : Int64) (v9 : Value), 0 ≤ x5.toInt → 0 ≤ x7.toInt → x7.toInt < (k : Int) → (∀ (y5 y7 : Int64) (v9 : Value), y5.toInt = (Int.gcd x5.toInt x7.toInt : Int) → Wp 99 b 53 [.ref 51, .long x, x_no, .long d, x_no, .long y5, x_no, .long y7, x_no, v9, x_no] [] w Q) → Wp 99 b 28 [.ref 51, .long x, x_no, .long d, x_no, .long x5, x_no, .long x7, x_no, v9, x_no] [] w Q := by
  intro k
  induction k with
  | zero =>
    intro x5 x7 v9 h5 h7 hk
    omega
  | succ k ih =>
    intro x5 x7 v9 h5 h7 hk K
    simp only [q99_28]
    simp only [q99_30, q99_31, q99_32, q99_35, q99_37, q99_39, q99_40, q99_42, q99_44, q99_46, q99_48, q99_50, gF0, gF1, gF2, gF3, gF4, gF5, gF6, gF7, gF8, gF9, gF10, gF11, gF12, gF13, gF14, gF15, gF16, gF17, gF18, gF19, pF0, pF1, pF2, pF3, pF4, pF5, pF6, pF7, pF8, pF9, pF10, pF11, pF12, pF13, pF14, pF15, pF16, pF17, pF18, pF19, aI_mk, aL_mk, aA_mk, sI_mk, sL_mk, sA_mk, isO_mk, rl_some, rl_none, true_and, and_true, true_or, or_true, wr_1, lg0]
    by_cases c : x7 = 0
    · rw [if_pos c]
      refine K x5 x7 v9 ?_
      rw [c, show (0 : Int64).toInt = 0 from rfl, Int.gcd_zero_right]
      omega
    · have hp : 0 < x7.toInt := by
        rcases Int.lt_or_le 0 x7.toInt with q | q
        · exact q
        · exact absurd (Int64.toInt_inj.mp (show x7.toInt = (0 : Int64).toInt by rw [show (0 : Int64).toInt = 0 from rfl]; omega)) c
      rw [if_neg c]
      refine ⟨c, ?_⟩
      have r0 := x_rem h5 hp
      have r1 := Int.emod_nonneg x5.toInt (show x7.toInt ≠ 0 by omega)
      have r2 := Int.emod_lt_of_pos x5.toInt hp
      refine ih x7 _ _ (by omega) (by omega) (by omega) (fun y5 y7 v e => K y5 y7 v ?_)
      rw [e, r0, gcd_st h5 hp]
theorem c99 (D : isM w m) {x d : Int64} (hd : 0 < d.toInt) (hx : x.toInt ≠ -9223372036854775808) (K : ∀ w2, fr w w2 51 60 → isM w2 ((m.s_up (x / cdF d x)).s_dn (d / cdF d x)) → Q none w2) : Wp 99 b 0 [.ref 51, .long x, x_no, .long d, x_no, x_no, x_no, x_no, x_no, x_no, x_no] [] w Q := by
  have D0 := D
  obtain ⟨h0, -⟩ := D
  have hD : d.toInt < 9223372036854775808 := Int64.toInt_lt d
  have lgd : 0 ≤ lg_cmp d 0 := by
    rw [lgz, Int64.le_iff_toInt_le, show (0 : Int64).toInt = 0 from rfl]
    omega
  have a1 : (abL d).toInt = d.toInt := by rw [ab_int (by omega)]; omega
  have a2 := ab_int hx
  have K' : Wp 99 b 28 [.ref 51, .long x, x_no, .long d, x_no, .long (abL x), x_no, .long (abL d), x_no, x_no, x_no] [] w Q := by
    refine l99 (d.toInt.toNat + 1) _ _ _ (by omega) (by omega) (by omega) (fun y5 y7 v e => ?_)
    have e2 : y5 = cdF d x := by
      refine Int64.toInt_inj.mp ?_
      rw [e, cd_gcd hd hx, a1, a2, Int.gcd_comm]
      simp [Int.gcd]
    subst e2
    simp only [q99_53, q99_54, q99_55, q99_56, q99_57, q99_60, q99_61, q99_62, q99_64, q99_65, q99_68, q99_69, q99_71, q99_72, q99_75, q99_76, q99_77, q99_78, q99_79, q99_82, q99_83, q99_84, q99_86, q99_87, q99_90, q99_91, q99_93, q99_94, q99_97, gF0, gF1, gF2, gF3, gF4, gF5, gF6, gF7, gF8, gF9, gF10, gF11, gF12, gF13, gF14, gF15, gF16, gF17, gF18, gF19, pF0, pF1, pF2, pF3, pF4, pF5, pF6, pF7, pF8, pF9, pF10, pF11, pF12, pF13, pF14, pF15, pF16, pF17, pF18, pF19, aI_mk, aL_mk, aA_mk, sI_mk, sL_mk, sA_mk, isO_mk, rl_some, rl_none, true_and, and_true, true_or, or_true, wr_1, h0, oM, if_pos lgd, cd0, not_false_eq_true, rd_s]
    have K1 := K
    generalize x / cdF d x = u at K1 ⊢
    generalize d / cdF d x = z at K1 ⊢
    exact K1 _ ((fr.wr (by omega) (by omega)).tr (fr.wr (by omega) (by omega))) (D0.ud u z)
  simp only [q99_0, q99_1, q99_2, q99_3, q99_6, q99_7, q99_8, q99_11, q99_12, q99_14, q99_15, q99_16, q99_17, q99_20, q99_21, q99_22, q99_25, q99_26, gF0, gF1, gF2, gF3, gF4, gF5, gF6, gF7, gF8, gF9, gF10, gF11, gF12, gF13, gF14, gF15, gF16, gF17, gF18, gF19, pF0, pF1, pF2, pF3, pF4, pF5, pF6, pF7, pF8, pF9, pF10, pF11, pF12, pF13, pF14, pF15, pF16, pF17, pF18, pF19, aI_mk, aL_mk, aA_mk, sI_mk, sL_mk, sA_mk, isO_mk, rl_some, rl_none, true_and, and_true, true_or, or_true, wr_1, if_pos lgd]
  rw [← abL_ge lgd] at K'
  by_cases c : 0 ≤ lg_cmp x 0
  · rw [abL_ge c] at K'
    rw [if_pos c]
    simpa [abL_ge lgd] using K'
  · rw [abL_lt c] at K'
    rw [if_neg c]
    simpa [abL_ge lgd] using K'
theorem c100 (D : isM w m) {x d : Int64} {t : Int32} (hd : 0 < d.toInt) (hx : x.toInt ≠ -9223372036854775808) (K : ∀ w2 u v, fr w w2 51 60 → isM w2 ((m.s_up u).s_dn v) → Q (some (.long (if t = 0 then x / cdF d x else d / cdF d x))) w2) : Wp 100 b 0 [.ref 51, .long x, x_no, .long d, x_no, .int t] [] w Q := by
  have D0 := D
  obtain ⟨h0, -⟩ := D
  simp only [q100_0, q100_1, q100_2, q100_3, gF0, gF1, gF2, gF3, gF4, gF5, gF6, gF7, gF8, gF9, gF10, gF11, gF12, gF13, gF14, gF15, gF16, gF17, gF18, gF19, pF0, pF1, pF2, pF3, pF4, pF5, pF6, pF7, pF8, pF9, pF10, pF11, pF12, pF13, pF14, pF15, pF16, pF17, pF18, pF19, aI_mk, aL_mk, aA_mk, sI_mk, sL_mk, sA_mk, isO_mk, rl_some, rl_none, true_and, and_true, true_or, or_true, wr_1, h0, oM]
  refine c99 D0 hd hx (fun w2 f2 D2 => ?_)
  have := K w2 _ _ f2 D2
  obtain ⟨h0, -⟩ := D2
  simp only [q100_6, q100_8, q100_11, q100_12, q100_15, q100_18, q100_19, q100_22, gF0, gF1, gF2, gF3, gF4, gF5, gF6, gF7, gF8, gF9, gF10, gF11, gF12, gF13, gF14, gF15, gF16, gF17, gF18, gF19, pF0, pF1, pF2, pF3, pF4, pF5, pF6, pF7, pF8, pF9, pF10, pF11, pF12, pF13, pF14, pF15, pF16, pF17, pF18, pF19, aI_mk, aL_mk, aA_mk, sI_mk, sL_mk, sA_mk, isO_mk, rl_some, rl_none, true_and, and_true, true_or, or_true, wr_1, h0, oM]
  by_cases c : t = 0
  · simp only [c, not_true, if_false, if_true] at this ⊢
    exact this
  · simp only [c, not_false_eq_true, if_false, if_true] at this ⊢
    exact this
end MR3
