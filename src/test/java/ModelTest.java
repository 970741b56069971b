import java.util.Random;

/** Runs of drawn calls, each call to the program and to Model: the answers must be alike. */
public final class ModelTest {
    private static final int RUNS = 300;
    private static final String[] NAMES = {"fall", "rocks", "water", "deep", "looked", "load"};
    private static final String[] STRAYS = {"risk", "wet", "worth", "or", "and", "not", "fall", "x", "(", ")",
        ";", "+", "-", "*", "<", "=", "12345", "0", "#", "", "\t", "\u00e9", "A", "fallrocks", "7x"};

    private final Checks checks = new Checks();
    private Random draw = new Random(1);
    private RiverDown x = new RiverDown();
    private Model m = new Model();

    public static void main(String[] args) {
        ModelTest test = new ModelTest();
        for (int run = 0; run < RUNS; run++) {
            test.run(run);
        }
        test.checks.end();
    }

    private void run(int number) {
        checks.begin("run " + number);
        draw = new Random(number);
        x = new RiverDown();
        m = new Model();
        int calls = 0;
        int changes = draw.nextInt(40);
        for (int i = 0; i < changes; i++) {
            calls += change();
        }
        for (int i = 0; calls < 512 && i < 90; i++) {
            int kind = draw.nextInt(10);
            calls += kind < 3 ? change() : kind < 5 ? host() : kind < 8 ? ask() : askWay();
        }
        everything();
    }

    /** Mostly 0 .. most, now and then a little or far outside. */
    private int near(int most) {
        int kind = draw.nextInt(40);
        if (kind == 0) return -1 - draw.nextInt(3);
        if (kind == 1) return most + 1 + draw.nextInt(3);
        if (kind == 2) return draw.nextInt();
        if (kind == 3) return most;
        return draw.nextInt(most + 1);
    }

    private int change() {
        switch (draw.nextInt(12)) {
            case 0: case 1: case 2: {
                int what = draw.nextInt(8) == 0 ? near(999) : 10 * draw.nextInt(100) + draw.nextInt(2);
                checks.due("place(" + what + ")", x.place(what), m.place(what));
                return 1;
            }
            case 3: case 4: case 5: {
                int what = near(8);
                int of = near(Math.max(0, m.count(0) - 1));
                int[] most = {9, 9, 1, 1, 9, 9, 6, 99, 60};
                int v = near(what >= 0 && what < 9 ? most[what] : 9);
                checks.due("set(" + what + ", " + of + ", " + v + ")", x.set(what, of, v), m.set(what, of, v));
                return 1;
            }
            case 6: case 7: case 8: {
                int kind = near(5);
                int n = near(9);
                checks.due("doing(" + kind + ", " + n + ")", x.doing(kind, n), m.doing(kind, n));
                return 1;
            }
            case 9:
                return text();
            case 10: {
                int text = near(m.count(2) - 1);
                checks.due("force(" + text + ")", x.force(text), m.force(text));
                return 1;
            }
            default:
                if (draw.nextBoolean()) checks.due("image()", x.image(), m.image());
                else checks.due("back()", x.back(), m.back());
                return 1;
        }
    }

    private int text() {
        String s = drawText();
        int calls = 0;
        int at = 0;
        while (at < s.length()) {
            int n = Math.min(s.length() - at, 1 + draw.nextInt(8));
            long bytes = draw.nextLong();
            for (int i = n - 1; i >= 0; i--) {
                bytes = bytes << 8 | s.charAt(at + i);
            }
            checks.due("feed(" + n + ", " + bytes + ")", x.feed(n, bytes), m.feed(n, bytes));
            at += n;
            calls++;
        }
        int wrongN = draw.nextInt(20) == 0 ? near(8) : -1;
        checks.due("feed(" + wrongN + ", 32)", x.feed(wrongN, 0x2020202020202020L), m.feed(wrongN, 0x2020202020202020L));
        int answer = m.text();
        checks.due("text() of " + s, x.text(), answer);
        if (answer > 0 && draw.nextInt(4) > 0) {
            checks.due("force(" + answer + ")", x.force(answer), m.force(answer));
        }
        return calls + 3;
    }

    private String drawText() {
        StringBuilder b = new StringBuilder();
        int depth = draw.nextInt(9);
        b.append("risk").append(gap(true)).append(expression(depth)).append(gap(false)).append(";");
        b.append(gap(false)).append("wet ").append(expression(draw.nextInt(4))).append(";");
        b.append("worth ").append(expression(draw.nextInt(3))).append(";").append(gap(false));
        String s = b.toString();
        if (draw.nextInt(3) == 0) s = spoilt(s);
        return s.length() > 170 ? s.substring(0, 170) : s;
    }

    private String spoilt(String s) {
        int at = draw.nextInt(s.length() + 1);
        switch (draw.nextInt(3)) {
            case 0: return s.substring(0, at);
            case 1: return s.substring(0, at) + STRAYS[draw.nextInt(STRAYS.length)] + s.substring(at);
            default: return s.substring(0, at) + s.substring(Math.min(s.length(), at + 1 + draw.nextInt(4)));
        }
    }

    private String gap(boolean needed) {
        int kind = draw.nextInt(4);
        return kind == 0 ? "\n" : kind == 1 ? "  " : kind == 2 || needed ? " " : "";
    }

    private String expression(int depth) {
        if (depth <= 0 || draw.nextInt(8) == 0) {
            int kind = draw.nextInt(6);
            return kind < 4 ? NAMES[draw.nextInt(6)] : kind == 4 ? "" + draw.nextInt(10) : "" + draw.nextInt(10000);
        }
        switch (draw.nextInt(9)) {
            case 0: return "(" + expression(depth - 1) + ")";
            case 1: return "not " + expression(depth - 1);
            case 2: return "-" + expression(depth - 1);
            case 3: return "(" + expression(depth - 1) + gap(false) + ")*" + expression(1);
            case 4: return expression(depth - 1) + " or " + expression(1);
            case 5: return expression(1) + " and " + expression(depth - 1);
            case 6: return expression(depth - 1) + (draw.nextBoolean() ? "<" : " = ") + expression(0);
            case 7: return expression(1) + (draw.nextBoolean() ? "+" : "-") + expression(depth - 1);
            default: return expression(depth - 1) + "*" + expression(0);
        }
    }

    private int host() {
        int sheet = near(3);
        switch (draw.nextInt(7)) {
            case 0: {
                int sort = draw.nextInt(6) == 0 ? -1 : near(2);
                int n = draw.nextInt(3) > 0 ? m.count(0) : near(40);
                checks.due("sheet(" + sheet + ", " + sort + ", " + n + ")", x.sheet(sheet, sort, n), m.sheet(sheet, sort, n));
                return 1;
            }
            case 1: case 2: case 3: {
                int i = near(12);
                int v = draw.nextInt(3) > 0 ? near(7) : near(999);
                checks.due("cell(" + sheet + ", " + i + ", " + v + ")", x.cell(sheet, i, v), m.cell(sheet, i, v));
                return 1;
            }
            case 4: {
                int i = near(6);
                int other = near(3);
                int j = near(6);
                int n = near(6);
                checks.due("copy(" + sheet + ", " + i + ", " + other + ", " + j + ", " + n + ")",
                        x.copy(sheet, i, other, j, n), m.copy(sheet, i, other, j, n));
                return 1;
            }
            case 5: {
                int sort = near(2);
                int from = near(6);
                int n = near(12);
                checks.due("places(" + sheet + ", " + sort + ", " + from + ", " + n + ")",
                        x.places(sheet, sort, from, n), m.places(sheet, sort, from, n));
                return 1;
            }
            default: {
                int doing = near(7);
                int k = near(5);
                checks.due("taken(" + doing + ", " + k + ")", x.taken(doing, k), m.taken(doing, k));
                return 1;
            }
        }
    }

    private int ask() {
        int place = near(Math.max(0, m.count(0) - 1));
        int bh = draw.nextInt(10) == 0 ? near(660) : 100 * draw.nextInt(7) + (draw.nextBoolean() ? draw.nextInt(61) : draw.nextInt(12));
        switch (draw.nextInt(10)) {
            case 0: case 1: {
                int at = draw.nextInt(4) == 0 ? m.count(0) : place;
                checks.due("value(" + at + ", " + bh + ")", x.value(at, bh), m.value(at, bh));
                return 1;
            }
            case 2: case 3:
                checks.due("best(" + place + ", " + bh + ")", x.best(place, bh), m.best(place, bh));
                return 1;
            case 4:
                checks.due("look(" + place + ")", x.look(place), m.look(place));
                return 1;
            case 5: {
                int n = near(9);
                checks.due("rises(" + n + ")", x.rises(n), m.rises(n));
                return 1;
            }
            case 6: {
                int what = near(1);
                checks.due("more(" + what + ")", x.more(what), m.more(what));
                return 1;
            }
            case 7:
                checks.due("worst()", x.worst(), m.worst());
                return 1;
            case 8:
                checks.due("last()", x.last(), m.last());
                return 1;
            default: {
                int doing = near(Math.max(0, m.count(1) - 1));
                int what = near(5);
                checks.due("told(" + doing + ", " + place + ", " + what + ")",
                        x.told(doing, place, what), m.told(doing, place, what));
                return 1;
            }
        }
    }

    /** A sheet is made a way for all places, mostly; then each question of it. */
    private int askWay() {
        int sheet = draw.nextInt(4);
        int n = m.count(0);
        int sort = draw.nextInt(3);
        x.sheet(sheet, sort, n);
        m.sheet(sheet, sort, n);
        for (int i = 0; i < n; i++) {
            int v = draw.nextInt(30) == 0 ? near(8) : draw.nextInt(Math.max(1, m.count(1)));
            x.cell(sheet, i, v);
            m.cell(sheet, i, v);
        }
        if (draw.nextInt(10) == 0) sheet = near(3);
        int place = near(Math.max(0, n - 1));
        int b = near(6);
        int k = near(7);
        int what = near(1);
        int seed = draw.nextInt();
        checks.due("parts(" + sheet + ", " + place + ", " + b + ")", x.parts(sheet, place, b), m.parts(sheet, place, b));
        checks.due("mean(" + sheet + ")", x.mean(sheet), m.mean(sheet));
        checks.due("takes(" + sheet + ", " + what + ")", x.takes(sheet, what), m.takes(sheet, what));
        checks.due("odds(" + sheet + ", " + k + ")", x.odds(sheet, k), m.odds(sheet, k));
        checks.due("drawn(" + sheet + ", " + seed + ")", x.drawn(sheet, seed), m.drawn(sheet, seed));
        checks.due("judge(" + sheet + ")", x.judge(sheet), m.judge(sheet));
        return n + 7;
    }

    /** What can be asked without a change, at the end of a run. */
    private void everything() {
        for (int what = -1; what <= 10; what++) {
            checks.due("count(" + what + ")", x.count(what), m.count(what));
        }
        checks.due("worth()", x.worth(), m.worth());
        for (int doing = 0; doing < m.count(1); doing++) {
            for (int place = 0; place < m.count(0); place++) {
                for (int what = 0; what <= 5; what++) {
                    checks.due("told(" + doing + ", " + place + ", " + what + ")",
                            x.told(doing, place, what), m.told(doing, place, what));
                }
            }
        }
        checks.due("worst()", x.worst(), m.worst());
        checks.due("last()", x.last(), m.last());
    }
}
