import java.math.BigInteger;
import java.nio.charset.StandardCharsets;
import java.util.ArrayList;
import java.util.Arrays;
import java.util.List;

/**
 * The document once more, word by word and without any thrift: texts are read anew each time they
 * are asked, values are reckoned for all half days, quotients with BigInteger. ModelTest holds the
 * program against it.
 */
final class Model {
    static final long NO = -4611686018427387904L;
    private static final String FIRST =
            "risk fall * 4 + rocks - looked * 9 ; wet fall + deep - looked ; worth load * 10 ;";
    private static final BigInteger HUNDRED = BigInteger.valueOf(100);

    static final class Spot {
        int fall;
        int rocks;
        int bank;
        int looked;

        Spot(int fall, int rocks, int bank, int looked) {
            this.fall = fall;
            this.rocks = rocks;
            this.bank = bank;
            this.looked = looked;
        }

        Spot twin() {
            return new Spot(fall, rocks, bank, looked);
        }
    }

    static final class Numbers {
        int water = 4;
        int deep = 3;
        int boats = 4;
        int load = 40;
        int snow = 24;
        int rule = 0;

        Numbers twin() {
            Numbers n = new Numbers();
            n.water = water;
            n.deep = deep;
            n.boats = boats;
            n.load = load;
            n.snow = snow;
            n.rule = rule;
            return n;
        }
    }

    private List<Spot> spots = new ArrayList<>();
    private Numbers now = new Numbers();
    private final List<int[]> doings = new ArrayList<>();
    private final List<byte[]> texts = new ArrayList<>();
    private byte[] tape = new byte[0];
    private List<Spot> keptSpots = null;
    private Numbers keptNumbers = null;
    private final Object[] sheets = new Object[4];

    Model() {
        texts.add(FIRST.getBytes(StandardCharsets.ISO_8859_1));
    }

    // ---- the river, doings

    int place(int what) {
        if (what < 0 || what > 999 || what % 10 > 1) return -2;
        if (spots.size() == 12) return -4;
        spots.add(new Spot(what / 100, what / 10 % 10, what % 10, 0));
        return spots.size() - 1;
    }

    int set(int what, int of, int v) {
        if (what < 0 || what > 8 || v < 0) return -2;
        if (what < 4 && (of < 0 || of >= spots.size())) return -2;
        int was;
        switch (what) {
            case 0: if (v > 9) return -2; was = spots.get(of).fall; spots.get(of).fall = v; return was;
            case 1: if (v > 9) return -2; was = spots.get(of).rocks; spots.get(of).rocks = v; return was;
            case 2: if (v > 1) return -2; was = spots.get(of).bank; spots.get(of).bank = v; return was;
            case 3: if (v > 1) return -2; was = spots.get(of).looked; spots.get(of).looked = v; return was;
            case 4: if (v > 9) return -2; was = now.water; now.water = v; return was;
            case 5: if (v > 9) return -2; was = now.deep; now.deep = v; return was;
            case 6: if (v > 6) return -2; was = now.boats; now.boats = v; return was;
            case 7: if (v > 99) return -2; was = now.load; now.load = v; return was;
            default: if (v > 60) return -2; was = now.snow; now.snow = v; return was;
        }
    }

    int doing(int kind, int number) {
        if (kind < 0 || kind > 5 || number < 0 || number > 9) return -2;
        if (doings.size() == 8) return -4;
        doings.add(new int[] {kind, number});
        return doings.size() - 1;
    }

    int told(int doing, int place, int what) {
        if (doing < 0 || doing >= doings.size() || place < 0 || place >= spots.size()) return -2;
        switch (what) {
            case 0: return doings.get(doing)[0];
            case 1: return taking(doing);
            case 2: return risk(doing, place);
            case 3: return wets(doing, place);
            case 4: return may(doing, place) ? 1 : 0;
            case 5: return doings.get(doing)[1];
            default: return -2;
        }
    }

    private int taking(int doing) {
        return takingOf(doings.get(doing)[0], doings.get(doing)[1]);
    }

    private static int takingOf(int kind, int number) {
        switch (kind) {
            case 0: return 0;
            case 1: return takingOf(0, number) + 1;
            case 2: return takingOf(0, number) + 4;
            case 3: return takingOf(0, number) + 1 + number / 4;
            case 4: return takingOf(1, number) + number / 3;
            default: return takingOf(2, number) / 2;
        }
    }

    private int risk(int doing, int place) {
        int raw = rawRisk(doings.get(doing)[0], doings.get(doing)[1], place);
        return raw < 0 ? 0 : raw > 100 ? 100 : raw;
    }

    private int rawRisk(int kind, int number, int place) {
        switch (kind) {
            case 0: return says(0, place);
            case 1: return rawRisk(0, number, place) / 4;
            case 2: return 0;
            case 3: return rawRisk(0, number, place) / 2;
            case 4: return rawRisk(1, number, place) - number;
            default: return rawRisk(2, number, place) + 2;
        }
    }

    private int wets(int doing, int place) {
        int raw = rawWets(doings.get(doing)[0], doings.get(doing)[1], place);
        return raw < 0 ? 0 : raw > now.load ? now.load : raw;
    }

    private int rawWets(int kind, int number, int place) {
        switch (kind) {
            case 0: return says(1, place);
            case 1: return rawWets(0, number, place) / 3;
            case 2: return number;
            case 3: return rawWets(0, number, place);
            case 4: return rawWets(1, number, place);
            default: return 2 * rawWets(2, number, place);
        }
    }

    private boolean may(int doing, int place) {
        return mayKind(doings.get(doing)[0], spots.get(place));
    }

    private boolean mayKind(int kind, Spot spot) {
        switch (kind) {
            case 1: return spot.rocks < 8;
            case 2: return spot.bank == 1;
            case 4: return mayKind(1, spot);
            case 5: return mayKind(2, spot) && now.water < 7;
            default: return true;
        }
    }

    // ---- texts

    int feed(int n, long bytes) {
        if (n < 1 || n > 8) return -2;
        if (tape.length + n > 160) return -4;
        byte[] longer = Arrays.copyOf(tape, tape.length + n);
        for (int i = 0; i < n; i++) {
            longer[tape.length + i] = (byte) (bytes >> (8 * i));
        }
        tape = longer;
        return tape.length;
    }

    int text() {
        if (texts.size() == 6) return -4;
        byte[] read = tape;
        tape = new byte[0];
        try {
            new Reading(read, new int[6]).whole(2);
        } catch (Fault f) {
            return -100 - f.at;
        }
        texts.add(read);
        return texts.size() - 1;
    }

    int force(int text) {
        if (text < 0 || text >= texts.size()) return -2;
        int was = now.rule;
        now.rule = text;
        return was;
    }

    int worth() {
        int raw = says(2, -1);
        return raw < 0 ? 0 : raw > 9999 ? 9999 : raw;
    }

    private int says(int part, int place) {
        Spot spot = place < 0 ? new Spot(0, 0, 0, 0) : spots.get(place);
        int[] names = {spot.fall, spot.rocks, now.water, now.deep, spot.looked, now.load};
        try {
            return new Reading(texts.get(now.rule), names).whole(part);
        } catch (Fault f) {
            throw new IllegalStateException("a text that was taken has a fault");
        }
    }

    private static final class Fault extends Exception {
        private static final long serialVersionUID = 1L;
        final int at;

        Fault(int at) {
            this.at = at;
        }
    }

    /** Reads and reckons at once, byte by byte. */
    private static final class Reading {
        private static final List<String> NAMES =
                List.of("fall", "rocks", "water", "deep", "looked", "load");
        private static final List<String> KEYS = List.of("risk", "wet", "worth", "or", "and", "not");

        private final String s;
        private final int[] names;
        private int at = 0;
        private int open = 0;

        Reading(byte[] bytes, int[] names) {
            this.s = new String(bytes, StandardCharsets.ISO_8859_1);
            this.names = names;
        }

        private void skip() {
            while (at < s.length() && (s.charAt(at) == ' ' || s.charAt(at) == '\n')) at++;
        }

        /** The next token, "" at the end; at stands on its first byte then. */
        private String peek() throws Fault {
            skip();
            if (at == s.length()) return "";
            char c = s.charAt(at);
            int end = at + 1;
            if (c >= 'a' && c <= 'z') {
                while (end < s.length() && s.charAt(end) >= 'a' && s.charAt(end) <= 'z') end++;
                String word = s.substring(at, end);
                if (!NAMES.contains(word) && !KEYS.contains(word)) throw new Fault(at);
                return word;
            }
            if (c >= '0' && c <= '9') {
                while (end < s.length() && s.charAt(end) >= '0' && s.charAt(end) <= '9') end++;
                if (end - at > 4) throw new Fault(at);
                return s.substring(at, end);
            }
            if ("();+-*<=".indexOf(c) < 0) throw new Fault(at);
            return s.substring(at, end);
        }

        private boolean eat(String token) throws Fault {
            if (!peek().equals(token)) return false;
            at += token.length();
            return true;
        }

        private void must(String token) throws Fault {
            if (!eat(token)) throw new Fault(at);
        }

        int whole(int part) throws Fault {
            int[] parts = new int[3];
            for (int i = 0; i < 3; i++) {
                must(KEYS.get(i));
                parts[i] = e();
                must(";");
            }
            if (!peek().isEmpty()) throw new Fault(at);
            return parts[part];
        }

        private int e() throws Fault {
            int v = and();
            while (eat("or")) {
                int w = and();
                v = v != 0 || w != 0 ? 1 : 0;
            }
            return v;
        }

        private int and() throws Fault {
            int v = not();
            while (eat("and")) {
                int w = not();
                v = v != 0 && w != 0 ? 1 : 0;
            }
            return v;
        }

        private void enter() throws Fault {
            if (open == 5) throw new Fault(at);
            open++;
        }

        private int not() throws Fault {
            if (peek().equals("not")) {
                enter();
                must("not");
                int v = not();
                open--;
                return v == 0 ? 1 : 0;
            }
            int v = sum();
            if (eat("<")) return v < sum() ? 1 : 0;
            if (eat("=")) return v == sum() ? 1 : 0;
            return v;
        }

        private int sum() throws Fault {
            int v = term();
            while (true) {
                if (eat("+")) v += term();
                else if (eat("-")) v -= term();
                else return v;
            }
        }

        private int term() throws Fault {
            int v = one();
            while (eat("*")) v *= one();
            return v;
        }

        private int one() throws Fault {
            String token = peek();
            if (token.isEmpty()) throw new Fault(at);
            if (token.charAt(0) >= '0' && token.charAt(0) <= '9') {
                must(token);
                return Integer.parseInt(token);
            }
            if (NAMES.contains(token)) {
                must(token);
                return names[NAMES.indexOf(token)];
            }
            if (token.equals("-")) {
                enter();
                must(token);
                int v = -one();
                open--;
                return v;
            }
            if (token.equals("(")) {
                enter();
                must(token);
                int v = e();
                must(")");
                open--;
                return v;
            }
            throw new Fault(at);
        }
    }

    // ---- told ways

    /** The numbers of a sheet; null: it is missing. */
    private int[] row(int sheet) {
        Object o = sheets[sheet];
        if (o instanceof byte[] b) {
            int[] r = new int[b.length];
            for (int i = 0; i < r.length; i++) r[i] = b[i];
            return r;
        }
        if (o instanceof short[] s) {
            int[] r = new int[s.length];
            for (int i = 0; i < r.length; i++) r[i] = s[i];
            return r;
        }
        return o == null ? null : ((int[]) o).clone();
    }

    private int wayFault(int sheet) {
        if (sheet < 0 || sheet > 3) return -2;
        int[] row = row(sheet);
        if (row == null) return -11;
        if (row.length != spots.size()) return -2;
        for (int d : row) {
            if (d < 0 || d >= doings.size()) return -2;
        }
        return 0;
    }

    private static BigInteger cases(int k, int b, int risk) {
        long choices = 1;
        for (int i = 0; i < k; i++) choices = choices * (b - i) / (i + 1);
        return BigInteger.valueOf(choices).multiply(BigInteger.valueOf(100 - risk).pow(k))
                .multiply(BigInteger.valueOf(risk).pow(b - k));
    }

    /** [place][b]: what comes to each place; behind the last one the end. */
    private long[][] flow(int[] way) {
        long[][] all = new long[spots.size() + 1][7];
        all[0][now.boats] = 1000000000L;
        for (int p = 0; p < spots.size(); p++) {
            int risk = risk(way[p], p);
            for (int b = 0; b <= 6; b++) {
                long others = all[p][b];
                for (int k = 0; k < b; k++) {
                    long go = BigInteger.valueOf(all[p][b]).multiply(cases(k, b, risk))
                            .divide(HUNDRED.pow(b)).longValueExact();
                    all[p + 1][k] += go;
                    others -= go;
                }
                all[p + 1][b] += others;
            }
        }
        return all;
    }

    long parts(int sheet, int place, int b) {
        if (wayFault(sheet) != 0 || place < 0 || place >= spots.size() || b < 0 || b > 6) return NO;
        return flow(row(sheet))[place + 1][b];
    }

    long mean(int sheet) {
        if (wayFault(sheet) != 0) return NO;
        int[] way = row(sheet);
        long[][] all = flow(way);
        BigInteger sum = BigInteger.ZERO;
        for (int b = 0; b <= 6; b++) {
            sum = sum.add(BigInteger.valueOf(all[spots.size()][b]).multiply(BigInteger.valueOf(b * worth())));
            for (int p = 0; p < spots.size(); p++) {
                sum = sum.subtract(BigInteger.valueOf(all[p][b])
                        .multiply(BigInteger.valueOf(b * 10 * wets(way[p], p))));
            }
        }
        return sum.divide(BigInteger.valueOf(1000000000L)).longValueExact();
    }

    int takes(int sheet, int what) {
        if (sheet < 0 || sheet > 3 || what < 0 || what > 1) return -2;
        if (wayFault(sheet) != 0) return wayFault(sheet);
        int[] way = row(sheet);
        int tooLong = -1;
        int sum = 0;
        for (int p = 0; p < way.length; p++) {
            sum += taking(way[p]);
            if (sum > now.snow && tooLong == -1) tooLong = p;
        }
        return what == 0 ? sum : tooLong;
    }

    long odds(int sheet, int k) {
        if (wayFault(sheet) != 0 || k < 0 || k > 7) return NO;
        long[] end = flow(row(sheet))[spots.size()];
        long sum = 0;
        for (int b = k; b <= 6; b++) sum += end[b];
        return sum;
    }

    int drawn(int sheet, int seed) {
        if (wayFault(sheet) != 0) return wayFault(sheet);
        int[] way = row(sheet);
        int z = seed;
        int there = now.boats;
        for (int p = 0; p < way.length; p++) {
            int left = 0;
            for (int i = 0; i < there; i++) {
                z = z * 1103515245 + 12345;
                if ((z >>> 8) % 100 >= risk(way[p], p)) left++;
            }
            there = left;
        }
        return there;
    }

    int judge(int sheet) {
        if (sheet < 0 || sheet > 3) return -2;
        int[] way = row(sheet);
        if (way == null) return -11;
        if (way.length != spots.size()) return -2;
        for (int p = 0; p < way.length; p++) {
            if (way[p] < 0 || way[p] >= doings.size() || !may(way[p], p)) return p;
        }
        return -1;
    }

    // ---- the best

    private static final class Table {
        final long[][][] value;
        final int[][][] best;

        Table(int n) {
            value = new long[n + 1][7][61];
            best = new int[n][7][61];
        }
    }

    private Table table() {
        int n = spots.size();
        Table t = new Table(n);
        for (int b = 0; b <= 6; b++) {
            for (int h = 0; h <= 60; h++) t.value[n][b][h] = (long) b * worth();
        }
        for (int p = n - 1; p >= 0; p--) {
            for (int[][] r : new int[][][] {t.best[p]}) for (int[] q : r) Arrays.fill(q, -1);
            for (long[] r : t.value[p]) Arrays.fill(r, -1);
            for (int d = 0; d < doings.size(); d++) {
                if (may(d, p)) fill(t, p, d);
            }
        }
        return t;
    }

    private void fill(Table t, int p, int d) {
        int risk = risk(d, p);
        int wets = wets(d, p);
        int taking = taking(d);
        for (int b = 0; b <= 6; b++) {
            long[] cases = new long[b + 1];
            for (int k = 0; k <= b; k++) cases[k] = cases(k, b, risk).longValueExact();
            long divisor = HUNDRED.pow(b).longValueExact();
            for (int h = taking; h <= 60; h++) {
                if (t.value[p + 1][b][h - taking] == -1) continue;
                long sum = 0;
                for (int k = 0; k <= b; k++) {
                    long then = t.value[p + 1][k][h - taking];
                    sum = Math.addExact(sum, Math.multiplyExact(cases[k], then == -1 ? 0 : then));
                }
                long v = Math.max(0, sum / divisor - (long) b * 10 * wets);
                if (v > t.value[p][b][h]) {
                    t.value[p][b][h] = v;
                    t.best[p][b][h] = d;
                }
            }
        }
    }

    long value(int place, int bh) {
        if (place < 0 || place > spots.size() || bh < 0 || bh / 100 > 6 || bh % 100 > 60) return NO;
        return table().value[place][bh / 100][bh % 100];
    }

    int best(int place, int bh) {
        if (place < 0 || place >= spots.size() || bh < 0 || bh / 100 > 6 || bh % 100 > 60) return -2;
        return table().best[place][bh / 100][bh % 100];
    }

    private long top() {
        return Math.max(0, table().value[0][now.boats][now.snow]);
    }

    long look(int place) {
        if (place < 0 || place >= spots.size()) return NO;
        long is = top();
        Numbers was = now.twin();
        int looked = spots.get(place).looked;
        spots.get(place).looked = 1;
        if (now.snow > 0) now.snow--;
        long would = top();
        spots.get(place).looked = looked;
        now = was;
        return would - is;
    }

    long rises(int n) {
        if (n < 0 || n > 9) return NO;
        long is = top();
        Numbers was = now.twin();
        now.water = now.water + n > 9 ? 9 : now.water + n;
        long would = top();
        now = was;
        return would - is;
    }

    long more(int what) {
        if (what < 0 || what > 1) return NO;
        if (what == 0 && now.boats == 6) return 0;
        long is = top();
        Numbers was = now.twin();
        if (what == 0) now.boats++;
        else now.snow = now.snow + 2 > 60 ? 60 : now.snow + 2;
        long would = top();
        now = was;
        return would - is;
    }

    int worst() {
        Table t = table();
        int worst = -1;
        for (int p = 0; p < spots.size(); p++) {
            int d = t.best[p][now.boats][now.snow];
            if (d == -1) continue;
            if (worst == -1 || risk(d, p) > risk(t.best[worst][now.boats][now.snow], worst)) worst = p;
        }
        return worst;
    }

    int last() {
        Table t = table();
        for (int h = 0; h <= 60; h++) {
            if (t.value[0][now.boats][h] != -1) return h;
        }
        return -1;
    }

    int image() {
        keptSpots = new ArrayList<>();
        for (Spot s : spots) keptSpots.add(s.twin());
        keptNumbers = now.twin();
        return spots.size();
    }

    int back() {
        if (keptSpots == null) return -3;
        for (int i = 0; i < keptSpots.size(); i++) spots.set(i, keptSpots.get(i).twin());
        now = keptNumbers.twin();
        return spots.size();
    }

    int count(int what) {
        int[] all = {spots.size(), doings.size(), texts.size(), tape.length, now.rule, now.water,
            now.deep, now.boats, now.load, now.snow};
        return what < 0 || what >= all.length ? -2 : all[what];
    }

    // ---- the host: here what the machine throws is what the document's numbers stand for

    int sheet(int sheet, int sort, int n) {
        if (sheet < 0 || sheet > 3 || sort < -1 || sort > 2) return -2;
        if (sort != -1 && n > 40) return -2;
        try {
            sheets[sheet] = sort == -1 ? null : sort == 0 ? new byte[n] : sort == 1 ? new short[n] : (Object) new int[n];
        } catch (NegativeArraySizeException e) {
            return -14;
        }
        return 1;
    }

    int cell(int sheet, int i, int v) {
        if (sheet < 0 || sheet > 3) return -2;
        Object o = sheets[sheet];
        if (o == null) return -11;
        try {
            if (o instanceof byte[] b) b[i] = (byte) v;
            else if (o instanceof short[] s) s[i] = (short) v;
            else ((int[]) o)[i] = v;
        } catch (ArrayIndexOutOfBoundsException e) {
            return -12;
        }
        return 1;
    }

    int copy(int sheet, int i, int other, int j, int n) {
        if (sheet < 0 || sheet > 3 || other < 0 || other > 3) return -2;
        try {
            System.arraycopy(sheets[sheet], i, sheets[other], j, n);
        } catch (NullPointerException e) {
            return -11;
        } catch (ArrayStoreException e) {
            return -13;
        } catch (IndexOutOfBoundsException e) {
            return -12;
        }
        return n;
    }

    int places(int sheet, int sort, int from, int n) {
        if (sheet < 0 || sheet > 3 || sort < 0 || sort > 2 || n < 0 || n > 12) return -2;
        Object o = sheets[sheet];
        boolean like = o == null || (sort == 0 ? o instanceof byte[] : sort == 1 ? o instanceof short[] : o instanceof int[]);
        if (!like) return -13;
        int[] row = row(sheet);
        if (row == null) return -11;
        int came = 0;
        try {
            for (int i = 0; i < n; i++) {
                if (place(row[from + i]) >= 0) came++;
            }
        } catch (ArrayIndexOutOfBoundsException e) {
            return -12;
        }
        return came;
    }

    int taken(int doing, int k) {
        if (k < 0 || k > 5) return -2;
        if (doing < 0 || doing >= doings.size()) return -11;
        int kind = doings.get(doing)[0];
        boolean under = kind == k || k == 0 || k == 1 && kind == 4 || k == 2 && kind == 5;
        return under ? doings.get(doing)[1] : -13;
    }
}
