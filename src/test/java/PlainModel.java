import java.util.ArrayList;
import java.util.List;

/** The document again in its plainest form, a week at a time, with the library's lists: what the class is held against. */
final class PlainModel {
    static final int BAD = -1, NO = -2, FULL = -3, NONE = -4;

    record Loan(int i, int j, int n, int d, int id) {}

    record Word(int i, int n, int d, boolean yes) {}

    static final class Books {
        int[] weeks;
        int[] lost;
        List<Loan> loans = new ArrayList<>();
        int gone = 0;

        Books(int[] weeks) {
            this.weeks = weeks.clone();
            this.lost = new int[weeks.length];
        }

        Books copy() {
            Books c = new Books(weeks);
            c.lost = lost.clone();
            c.loans = new ArrayList<>(loans);
            c.gone = gone;
            return c;
        }
    }

    String text = "";
    int[] laid = {50, 80};
    int rate = 10, kind = 0, law = 0;
    Books books = new Books(laid);
    List<Books> past = new ArrayList<>();
    List<Books> kept = new ArrayList<>();
    List<Word> told = new ArrayList<>();
    int[] paid = new int[1000];
    int nextId = 0;

    static boolean in(int x, int lo, int hi) { return lo <= x && x <= hi; }
    boolean person(int i) { return in(i, 0, laid.length - 1); }
    boolean lives(Books b, int i) { return person(i) && b.weeks[i] > 0; }
    int due(int n) { return n + n * rate / 100; }
    int living(Books b) {
        int c = 0;
        for (int w : b.weeks) if (w > 0) c++;
        return c;
    }

    int write(int n, long v) {
        if (!in(n, 1, 8)) return BAD;
        if (text.length() + n > 300) return FULL;
        String s = "";
        for (int k = 0; k < n; k++) { s = (char) (v & 255) + s; v >>= 8; }
        text += s;
        return text.length();
    }

    int wipe() { int l = text.length(); text = ""; return l; }

    int fault() {
        int at = 0, persons = 0;
        while (at < text.length()) {
            java.util.regex.Matcher m = java.util.regex.Pattern.compile("([prkn])([0-9]{1,3});").matcher(text);
            m.region(at, text.length());
            if (!m.lookingAt()) return at;
            int x = Integer.parseInt(m.group(2));
            switch (m.group(1)) {
                case "p": persons++; if (!in(x, 1, 999) || persons > 6) return at; break;
                case "r": if (x > 99) return at; break;
                case "k": if (x > 3) return at; break;
                default: if (x > 2) return at;
            }
            at = m.end();
        }
        return NONE;
    }

    int lay() {
        if (fault() != NONE || text.indexOf('p') < 0) return NO;
        List<Integer> ps = new ArrayList<>();
        rate = 10; kind = 0; law = 0;
        for (String item : text.split(";")) {
            int x = Integer.parseInt(item.substring(1));
            switch (item.charAt(0)) {
                case 'p': ps.add(x); break;
                case 'r': rate = x; break;
                case 'k': kind = x; break;
                default: law = x;
            }
        }
        laid = ps.stream().mapToInt(q -> q).toArray();
        books = new Books(laid);
        past.clear(); kept.clear(); told.clear();
        return laid.length;
    }

    int owes(Books b, int i, int j) {
        int s = 0;
        for (Loan l : b.loans) if (l.j == i && l.i == j) s += l.n;
        return s;
    }

    int person(int i, int what) {
        if (!person(i) || !in(what, 0, 2)) return BAD;
        if (what == 0) return books.weeks[i];
        if (what == 1) return books.lost[i];
        int s = 0;
        for (int j = 0; j < laid.length; j++) s += owes(books, i, j);
        return s;
    }

    int loan(int k, int what) {
        if (!in(k, 0, books.loans.size() - 1) || !in(what, 0, 3)) return BAD;
        Loan l = books.loans.get(k);
        return new int[] {l.i, l.j, l.n, l.d}[what];
    }

    int notaryOf(Books b, int i, int j, int n, int d) {
        if (i == j || !lives(b, i) || !lives(b, j) || !in(n, 1, 200) || !in(d, 1, 200)) return BAD;
        if (law == 2) return 0;
        if (b.weeks[i] <= n) return 0;
        if (law == 1) return 1;
        int all = 0;
        for (Loan l : b.loans) if (l.j == j && l.d <= d) all += due(l.n);
        return b.weeks[j] + n - d - all > due(n) ? 1 : 0;
    }

    int notary(int i, int j, int n, int d) { return notaryOf(books, i, j, n, d); }

    int lendIn(Books b, int i, int j, int n, int d) {
        int says = notaryOf(b, i, j, n, d);
        if (says == BAD) return BAD;
        if (says == 0) return NO;
        if (b.loans.size() == 8) return FULL;
        b.loans.add(new Loan(i, j, n, d, nextId++ % 1000));
        b.weeks[i] -= n;
        b.weeks[j] += n;
        return b.loans.size();
    }

    void deed(Books before) {
        past.add(before);
        if (past.size() > 6) past.remove(0);
    }

    int lend(int i, int j, int n, int d) {
        Books before = books.copy();
        int r = lendIn(books, i, j, n, d);
        if (r > 0) deed(before);
        return r;
    }

    void weekIn(Books b) {
        for (int i = 0; i < laid.length; i++) if (b.weeks[i] > 0) b.weeks[i]--;
        List<Loan> now = new ArrayList<>(), later = new ArrayList<>();
        for (Loan l : b.loans) (l.d == 1 ? now : later).add(new Loan(l.i, l.j, l.n, l.d - 1, l.id));
        if (kind == 2 && !now.isEmpty()) {
            Loan top = now.get(0);
            for (Loan l : now) if (l.n > top.n) top = l;
            now.remove(top);
            now.add(0, top);
        }
        for (Loan l : now) paid[l.id] = pay(b, l);
        b.loans = later;
        b.gone++;
    }

    int pay(Books b, Loan l) {
        if (b.weeks[l.i] == 0) return 0;
        int want = due(l.n), got;
        if (kind == 1) got = b.weeks[l.j] > want ? want : 0;
        else got = Math.min(want, Math.max(0, b.weeks[l.j] - 1));
        b.weeks[l.j] -= got;
        if (kind == 3) {
            for (int p = 0; p < laid.length; p++) {
                if (p != l.i && p != l.j && b.weeks[p] > 0) {
                    int more = Math.min(want - got, b.weeks[p] - 1);
                    b.weeks[p] -= more;
                    got += more;
                    break;
                }
            }
        }
        b.weeks[l.i] += got;
        b.lost[l.i] += want - got;
        return got;
    }

    int week() { deed(books.copy()); weekIn(books); return living(books); }

    int undo() {
        if (past.isEmpty()) return NO;
        books = past.remove(past.size() - 1);
        return past.size();
    }

    int dies(int i) {
        if (!person(i)) return BAD;
        Books b = books.copy();
        for (int t = 0; t <= 2000; t++) {
            if (b.weeks[i] == 0) return t;
            weekIn(b);
        }
        return NONE;
    }

    int run(int n, int i, int what) {
        if (!in(n, 0, 2000) || !person(i) || !in(what, 0, 2)) return BAD;
        Books b = books.copy();
        for (int t = 0; t < n; t++) weekIn(b);
        return what == 0 ? b.weeks[i] : what == 1 ? b.lost[i] : living(b);
    }

    int tell(int i, int n, int d, boolean yes) {
        if (!person(i) || !in(n, 1, 200) || !in(d, 1, 200)) return BAD;
        if (told.size() == 12) return FULL;
        told.add(new Word(i, n, d, yes));
        return told.size();
    }

    int forget() { int s = told.size(); told.clear(); return s; }

    boolean so(Word w, int weeks) { return (weeks > w.d + w.n * rate / 100) == w.yes; }

    List<Integer> spanOf(int i) {
        List<Integer> ws = new ArrayList<>();
        for (int w = 1; w <= 999; w++) {
            boolean all = true;
            for (Word t : told) all &= t.i != i || so(t, w);
            if (all) ws.add(w);
        }
        return ws;
    }

    int span(int i, int what) {
        if (!person(i) || !in(what, 0, 1)) return BAD;
        List<Integer> ws = spanOf(i);
        if (ws.isEmpty()) return NONE;
        return ws.get(what == 0 ? 0 : ws.size() - 1);
    }

    int ask(int i, int n) {
        if (!person(i) || !in(n, 1, 200)) return BAD;
        List<Integer> ws = spanOf(i);
        int best = NONE, fewest = 5000;
        for (int d = 1; d <= 200; d++) {
            int yes = 0, no = 0;
            for (int w : ws) if (so(new Word(i, n, d, true), w)) yes++; else no++;
            if (yes > 0 && no > 0 && Math.max(yes, no) < fewest) { best = d; fewest = Math.max(yes, no); }
        }
        return best;
    }

    int bribed() {
        int bits = 0;
        for (int t = 0; t < told.size(); t++) if (!so(told.get(t), laid[told.get(t).i])) bits |= 1 << t;
        return bits;
    }

    /** Every row of unlike persons of that length, in order, whatever is owed. */
    void rows(List<Integer> row, int length, List<List<Integer>> all) {
        if (row.size() == length) { all.add(new ArrayList<>(row)); return; }
        for (int p = 0; p < laid.length; p++) {
            if (!row.contains(p)) {
                row.add(p);
                rows(row, length, all);
                row.remove(row.size() - 1);
            }
        }
    }

    List<Integer> ring(int[][] o) {
        for (int length = 2; length <= laid.length; length++) {
            List<List<Integer>> all = new ArrayList<>();
            rows(new ArrayList<>(), length, all);
            for (List<Integer> r : all) {
                boolean ok = true;
                for (int p = 0; p < length; p++) ok &= r.get(0) <= r.get(p) && o[r.get(p)][r.get((p + 1) % length)] > 0;
                if (ok) return r;
            }
        }
        return null;
    }

    int cleared(int i, int j) {
        if (!(i == -1 && j == -1) && !(person(i) && person(j))) return BAD;
        int[][] o = new int[laid.length][laid.length];
        for (int a = 0; a < laid.length; a++) for (int b = 0; b < laid.length; b++) o[a][b] = owes(books, a, b);
        int off = 0;
        for (List<Integer> r = ring(o); r != null; r = ring(o)) {
            int least = 1 << 30;
            for (int p = 0; p < r.size(); p++) least = Math.min(least, o[r.get(p)][r.get((p + 1) % r.size())]);
            for (int p = 0; p < r.size(); p++) o[r.get(p)][r.get((p + 1) % r.size())] -= least;
            off += least * r.size();
        }
        return i == -1 ? off : o[i][j];
    }

    int child(int w, int i) {
        if (!in(w, 1, 99) || !lives(books, i)) return BAD;
        int all = 0;
        for (int x : books.weeks) all += x;
        int total = all;
        int[] g = new int[laid.length];
        int lacks = w;
        List<Integer> order = new ArrayList<>();
        for (int p = 0; p < laid.length; p++) {
            g[p] = w * books.weeks[p] / total;
            lacks -= g[p];
            if (books.weeks[p] > 0) order.add(p);
        }
        order.sort((a, b) -> w * books.weeks[b] % total - w * books.weeks[a] % total);
        for (int k = 0; k < lacks; k++) g[order.get(k)]++;
        for (int p : order) if (g[p] >= books.weeks[p]) return NO;
        return g[i];
    }

    int falls(int i, int what) {
        if (!lives(books, i) || !in(what, 0, 1)) return BAD;
        int[][] got = new int[2][8];
        int[][] dead = new int[2][laid.length];
        for (int side = 0; side < 2; side++) {
            Books b = books.copy();
            if (side == 1) b.weeks[i] = 0;
            java.util.Arrays.fill(paid, 0);
            for (int t = 0; t <= 300; t++) {
                for (int p = 0; p < laid.length; p++) if (b.weeks[p] > 0) dead[side][p] = t + 1;
                if (t < 300) weekIn(b);
            }
            for (int k = 0; k < books.loans.size(); k++) got[side][k] = paid[books.loans.get(k).id];
        }
        if (what == 0) {
            int c = 0;
            for (int k = 0; k < 8; k++) if (got[1][k] < got[0][k]) c++;
            return c;
        }
        int best = NONE;
        for (int p = 0; p < laid.length; p++)
            if (p != i && dead[1][p] < dead[0][p] && (best == NONE || dead[1][p] < dead[1][best])) best = p;
        return best;
    }

    int burned(int n, int m, int s, int i) {
        if (!in(n, 2, 4) || !in(m, 1, 12) || !in(s, 0, 999) || !in(i, -1, n - 1)) return BAD;
        int c = 0, first = NONE;
        for (int a = 1; a <= m; a++) for (int b = a; b <= m; b++)
            for (int e = n > 2 ? b : 0; e <= (n > 2 ? m : 0); e++) for (int f = n > 3 ? e : 0; f <= (n > 3 ? m : 0); f++)
                if (a + b + e + f == s && c++ == 0 && i >= 0) first = new int[] {a, b, e, f}[i];
        return i == -1 ? c : first;
    }

    int drawn(int z, int n, int what) {
        if (!in(z, 0, 9999) || !in(n, 1, 60) || !in(what, 0, 1)) return BAD;
        Books b = books.copy();
        for (int t = 0; t < n; t++) {
            long[] r = new long[4];
            for (int k = 0; k < 4; k++) {
                java.math.BigInteger x = java.math.BigInteger.valueOf(7919L * z + 6151L * t + 3571L * k + 1);
                r[k] = x.multiply(x).mod(java.math.BigInteger.valueOf(65521)).longValue();
            }
            lendIn(b, (int) (r[0] % laid.length), (int) (r[1] % laid.length), (int) (1 + r[2] % 20), (int) (1 + r[3] % 30));
            weekIn(b);
        }
        int lost = 0;
        for (int l : b.lost) lost += l;
        return what == 0 ? living(b) : lost;
    }

    int keep() {
        if (kept.size() == 2) return FULL;
        kept.add(books.copy());
        return kept.size();
    }

    int back() {
        if (kept.isEmpty()) return NO;
        books = kept.remove(kept.size() - 1);
        past.clear();
        return kept.size();
    }

    int count(int what) {
        if (!in(what, 0, 6)) return BAD;
        return new int[] {laid.length, books.loans.size(), told.size(), past.size(), kept.size(), text.length(),
            books.gone}[what];
    }
}
