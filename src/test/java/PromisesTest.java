import java.nio.charset.StandardCharsets;

/** Each promise by itself, with answers worked out by hand from the document. */
public final class PromisesTest {
    private static final int RUN = 0, ROPE = 1, CARRY = 2, HALF = 3, EASED = 4, TRACK = 5;
    private static final int FAR = Integer.MAX_VALUE, DEEPEST = Integer.MIN_VALUE;

    private final Checks checks = new Checks();
    private RiverDown x = new RiverDown();

    public static void main(String[] args) {
        PromisesTest test = new PromisesTest();
        test.river();
        test.texts();
        test.ways();
        test.bests();
        test.hosts();
        test.checks.end();
    }

    private void river() {
        promise1();
        promise2();
        promise3();
        promise4();
        promise5();
    }

    private void texts() {
        promise6();
        promise7Numbers();
        promise7Faults();
        promise7Depth();
        promise7Meaning();
        promise8();
        promise9();
    }

    private void ways() {
        promise10();
        promise10Exact();
        promise11();
        promise12();
        promise13();
        promise14();
        promise15();
    }

    private void bests() {
        promise16();
        promise17();
        promise18();
        promise19();
        promise20();
        promise21();
        promise22();
        promise23And24();
        promise25();
    }

    private void hosts() {
        promise26();
        promise27();
        promise28();
        promise29();
        promise30();
    }

    // ---- helpers

    private void fresh(String part) {
        checks.begin(part);
        x = new RiverDown();
    }

    private int fed(String s) {
        byte[] bytes = s.getBytes(StandardCharsets.ISO_8859_1);
        int answer = 0;
        for (byte b : bytes) {
            answer = x.feed(1, b);
        }
        return answer;
    }

    private int textOf(String s) {
        fed(s);
        return x.text();
    }

    /** A text becomes the rule. */
    private void rule(String s) {
        int text = textOf(s);
        checks.holds("the text stands: " + s, text >= 0);
        x.force(text);
    }

    /** A way on a sheet of ints. */
    private void way(int sheet, int... doings) {
        x.sheet(sheet, 2, doings.length);
        for (int i = 0; i < doings.length; i++) {
            x.cell(sheet, i, doings[i]);
        }
    }

    /** All that can be asked without a change, in one text. */
    private String state() {
        StringBuilder b = new StringBuilder();
        for (int i = 0; i < 10; i++) {
            b.append(x.count(i)).append(' ');
        }
        b.append(x.worth()).append(' ').append(x.last()).append(' ').append(x.worst());
        for (int d = 0; d < x.count(1); d++) {
            for (int p = 0; p < x.count(0); p++) {
                for (int i = 0; i < 6; i++) {
                    b.append(' ').append(x.told(d, p, i));
                }
            }
        }
        for (int s = 0; s < 4; s++) {
            b.append(" / ").append(x.judge(s)).append(' ').append(x.mean(s)).append(' ').append(x.takes(s, 0));
        }
        return b.toString();
    }

    private void unchanged(String before) {
        checks.holds("refused calls change nothing: " + before + " -> " + state(), before.equals(state()));
    }

    // ---- the river, doings

    private void promise1() {
        fresh("promise 1");
        int[] first = {0, 0, 1, 0, 0, 4, 3, 4, 40, 24};
        for (int i = 0; i < first.length; i++) {
            checks.due("count(" + i + ")", x.count(i), first[i]);
        }
        for (int s = 0; s < 4; s++) {
            checks.due("judge(" + s + ")", x.judge(s), -11);
        }
        checks.due("back()", x.back(), RiverDown.STATE);
        checks.due("worth()", x.worth(), 400);
        RiverDown other = new RiverDown();
        x.place(0);
        x.set(4, 0, 9);
        checks.due("another one's count(0)", other.count(0), 0);
        checks.due("another one's count(5)", other.count(5), 4);
    }

    private void promise2() {
        fresh("promise 2");
        x.doing(RUN, 0);
        for (int what : new int[] {-1, -10, 2, 9, 12, 998, 999, 1000, 1001, FAR, DEEPEST}) {
            checks.due("place(" + what + ")", x.place(what), RiverDown.BAD);
        }
        checks.due("count(0)", x.count(0), 0);
        checks.due("place(0)", x.place(0), 0);
        checks.due("place(991)", x.place(991), 1);
        checks.due("place(731)", x.place(731), 2);
        checks.due("fall * 4 + rocks", x.told(0, 2, 2), 31);
        checks.due("fall was 7", x.set(0, 2, 0), 7);
        checks.due("rocks were 3", x.set(1, 2, 0), 3);
        checks.due("a bank was", x.set(2, 2, 0), 1);
        checks.due("not looked at", x.set(3, 2, 0), 0);
        for (int i = 3; i < 12; i++) {
            checks.due("place(10)", x.place(10), i);
        }
        String before = state();
        checks.due("place(10), the 13th", x.place(10), RiverDown.FULL);
        checks.due("place(2), the 13th", x.place(2), RiverDown.BAD);
        unchanged(before);
    }

    private void promise3() {
        fresh("promise 3");
        x.place(0);
        x.place(561);
        x.doing(RUN, 0);
        int[] first = {5, 6, 1, 0, 4, 3, 4, 40, 24};
        int[] most = {9, 9, 1, 1, 9, 9, 6, 99, 60};
        for (int what = 0; what < 9; what++) {
            checks.due("set(" + what + ") to most", x.set(what, 1, most[what]), first[what]);
            checks.due("set(" + what + ") to 0", x.set(what, 1, 0), most[what]);
            String before = state();
            checks.due("set(" + what + ") above", x.set(what, 1, most[what] + 1), RiverDown.BAD);
            checks.due("set(" + what + ") far above", x.set(what, 1, FAR), RiverDown.BAD);
            checks.due("set(" + what + ") below", x.set(what, 1, -1), RiverDown.BAD);
            unchanged(before);
            checks.due("set(" + what + ") again", x.set(what, 1, first[what]), 0);
        }
        for (int of : new int[] {-1, 2, 12, FAR, DEEPEST}) {
            for (int what = 0; what < 4; what++) {
                checks.due("set(" + what + ", " + of + ", 0)", x.set(what, of, 0), RiverDown.BAD);
            }
            checks.due("set(4, " + of + ", 4): of does not matter", x.set(4, of, 4), 4);
            checks.due("set(8, " + of + ", 24): of does not matter", x.set(8, of, 24), 24);
        }
        for (int what : new int[] {-1, 9, FAR, DEEPEST}) {
            checks.due("set(" + what + ", 0, 0)", x.set(what, 0, 0), RiverDown.BAD);
        }
        checks.due("the other place's fall", x.set(0, 0, 0), 0);
        checks.due("the place's fall", x.set(0, 1, 0), 5);
    }

    private void promise4() {
        fresh("promise 4");
        for (int bad : new int[] {-1, 6, FAR, DEEPEST}) {
            checks.due("doing(" + bad + ", 0)", x.doing(bad, 0), RiverDown.BAD);
        }
        for (int bad : new int[] {-1, 10, FAR, DEEPEST}) {
            checks.due("doing(0, " + bad + ")", x.doing(0, bad), RiverDown.BAD);
        }
        checks.due("count(1)", x.count(1), 0);
        x.place(0);
        for (int i = 0; i < 8; i++) {
            checks.due("doing(" + i % 6 + ", " + (9 - i) + ")", x.doing(i % 6, 9 - i), i);
            checks.due("its kind", x.told(i, 0, 0), i % 6);
            checks.due("its number", x.told(i, 0, 5), 9 - i);
        }
        String before = state();
        checks.due("doing(0, 0), the 9th", x.doing(0, 0), RiverDown.FULL);
        checks.due("doing(6, 0), the 9th", x.doing(6, 0), RiverDown.BAD);
        unchanged(before);
    }

    private void sixDoings(int number) {
        for (int kind = RUN; kind <= TRACK; kind++) {
            x.doing(kind, number);
        }
    }

    private void toldOfAll(int what, int... due) {
        for (int doing = 0; doing < due.length; doing++) {
            checks.due("told(" + doing + ", 0, " + what + ")", x.told(doing, 0, what), due[doing]);
        }
    }

    private void promise5() {
        fresh("promise 5");
        x.place(871);
        sixDoings(9);
        toldOfAll(0, RUN, ROPE, CARRY, HALF, EASED, TRACK);
        toldOfAll(1, 0, 1, 4, 3, 4, 2);
        toldOfAll(2, 39, 9, 0, 19, 0, 2);
        toldOfAll(3, 11, 3, 9, 11, 3, 18);
        toldOfAll(4, 1, 1, 1, 1, 1, 1);
        toldOfAll(5, 9, 9, 9, 9, 9, 9);
        promise5May();
        promise5Bounds();
        String before = state();
        for (int bad : new int[] {-1, 6, FAR, DEEPEST}) {
            checks.due("told(" + bad + ", 0, 0)", x.told(bad, 0, 0), RiverDown.BAD);
            checks.due("told(0, " + bad + ", 0)", x.told(0, bad, 0), RiverDown.BAD);
            checks.due("told(0, 0, " + bad + ")", x.told(0, 0, bad), RiverDown.BAD);
        }
        unchanged(before);
        fresh("promise 5, small numbers");
        x.place(0);
        int[][] takes = {{HALF, 3, 1}, {HALF, 4, 2}, {HALF, 7, 2}, {HALF, 8, 3}, {EASED, 2, 1}, {EASED, 3, 2}, {EASED, 8, 3}};
        for (int i = 0; i < takes.length; i++) {
            x.doing(takes[i][0], takes[i][1]);
            checks.due("takes of kind " + takes[i][0] + " by " + takes[i][1], x.told(i, 0, 1), takes[i][2]);
        }
    }

    private void promise5May() {
        x.set(1, 0, 8);
        toldOfAll(4, 1, 0, 1, 1, 0, 1);
        x.set(1, 0, 7);
        x.set(2, 0, 0);
        toldOfAll(4, 1, 1, 0, 1, 1, 0);
        x.set(2, 0, 1);
        x.set(4, 0, 7);
        toldOfAll(4, 1, 1, 1, 1, 1, 0);
        x.set(4, 0, 6);
        toldOfAll(4, 1, 1, 1, 1, 1, 1);
    }

    /** Only in the end come the bounds: a rope's quarter is of what the rule says. */
    private void promise5Bounds() {
        rule("risk 150;wet 61;worth 0;");
        toldOfAll(2, 100, 37, 0, 75, 28, 2);
        toldOfAll(3, 40, 20, 9, 40, 20, 18);
        rule("risk 1000;wet 1000;worth 0;");
        toldOfAll(2, 100, 100, 0, 100, 100, 2);
        toldOfAll(3, 40, 40, 9, 40, 40, 18);
        rule("risk -7;wet -7;worth 0;");
        toldOfAll(2, 0, 0, 0, 0, 0, 2);
        toldOfAll(3, 0, 0, 9, 0, 0, 18);
        x.set(7, 0, 8);
        toldOfAll(3, 0, 0, 8, 0, 0, 8);
        x.set(7, 0, 40);
    }

    // ---- texts

    private void promise6() {
        fresh("promise 6");
        for (int bad : new int[] {0, -1, 9, FAR, DEEPEST}) {
            checks.due("feed(" + bad + ", 0)", x.feed(bad, 0), RiverDown.BAD);
        }
        checks.due("count(3)", x.count(3), 0);
        long risk = 'r' | 'i' << 8 | 's' << 16 | (long) 'k' << 24;
        checks.due("feed(4, risk)", x.feed(4, risk | 0x2323232300000000L), 4);
        checks.due("feed the rest", fed(" 1;wet 2;worth 3;"), 21);
        checks.due("text()", x.text(), 1);
        checks.due("count(3)", x.count(3), 0);
        for (int i = 1; i <= 19; i++) {
            checks.due("feed(8, 0)", x.feed(8, 0), 8 * i);
        }
        checks.due("feed(1, 0)", x.feed(1, 0), 153);
        checks.due("feed(8, 0) with room for 7", x.feed(8, 0), RiverDown.FULL);
        checks.due("feed(9, 0)", x.feed(9, 0), RiverDown.BAD);
        checks.due("count(3)", x.count(3), 153);
        checks.due("feed(7, 0)", x.feed(7, 0), 160);
        checks.due("feed(1, 0) with no room", x.feed(1, 0), RiverDown.FULL);
        checks.due("count(3)", x.count(3), 160);
    }

    private void promise7Numbers() {
        fresh("promise 7, numbers");
        for (int i = 1; i <= 5; i++) {
            checks.due("a text", textOf("risk 1;wet 2;worth 3;"), i);
            checks.due("count(2)", x.count(2), i + 1);
            checks.due("THE RULE stays", x.count(4), 0);
            if (i < 5) {
                checks.due("a faulty text", textOf("risk ;"), -105);
                checks.due("THE TAPE is empty behind a fault", x.count(3), 0);
            }
        }
        fed("risk 1;wet 2;worth 3;");
        checks.due("the 7th text", x.text(), RiverDown.FULL);
        checks.due("THE TAPE stays", x.count(3), 21);
        checks.due("count(2)", x.count(2), 6);
        checks.due("feed behind what stayed", x.feed(1, '#'), 22);
        checks.due("a faulty one with no room", x.text(), RiverDown.FULL);
        checks.due("THE TAPE stays", x.count(3), 22);
        fresh("promise 7, the longest text");
        StringBuilder b = new StringBuilder("risk 1;wet 2;worth 3");
        while (b.length() < 158) {
            b.append("+1");
        }
        b.append(" ;");
        checks.due("a text of 160 bytes", textOf(b.toString()), 1);
        x.force(1);
        checks.due("its worth", x.worth(), 3 + 69);
    }

    private void fault(String s, int place) {
        checks.due("text() of '" + s + "'", textOf(s), -100 - place);
        checks.due("count(3)", x.count(3), 0);
        checks.due("count(2)", x.count(2), 1);
    }

    private void promise7Faults() {
        fresh("promise 7, faults");
        fault("", 0);
        fault(" \n", 2);
        fault("risk", 4);
        fault("risk 1", 6);
        fault("risk 1;wet 1;worth 1", 20);
        fault("risk 1;wet 1;worth 1  ", 22);
        fault("risk 1;wet 1;worth 1;;", 21);
        fault("risk 1;wet 1;worth 1; risk 1;", 22);
        fault("risk 1;worth 1;wet 1;", 7);
        fault("wet 1;risk 1;worth 1;", 0);
        fault("riskfall;", 0);
        fault("Risk 1;", 0);
        fault("  ri sk 1;", 2);
        fault("risk ;", 5);
        fault("risk 12345;", 5);
        fault("risk 1234;", 10);
        fault("risk 00000;", 5);
        fault("risk 1 12345;", 7);
        fault("risk foo;", 5);
        fault("risk falls;", 5);
        fault("risk fal;", 5);
        fault("risk fallz;", 5);
        fault("risk afall;", 5);
        fault("risk #;", 5);
        fault("risk 1 # ;", 7);
        fault("risk\t1;", 4);
        fault("risk \u00ff;", 5);
        fault("risk \u0000;", 5);
        fault("risk 1 2;", 7);
        fault("risk fall rocks;", 10);
        fault("risk 1 + not 2;", 9);
        fault("risk - not 2;", 7);
        fault("risk 1 < not 2;", 9);
        fault("risk 1 < 2 < 3;", 11);
        fault("risk 1 < 2 = 3;", 11);
        fault("risk 1 = 2 = 3;", 11);
        fault("risk not 1 < 2 < 3;", 15);
        fault("risk (1;", 7);
        fault("risk ();", 6);
        fault("risk 1);", 6);
        fault("risk (1", 7);
        fault("risk 1 or ;", 10);
        fault("risk 1 and or 2;", 11);
        fault("risk or 1;", 5);
        fault("risk risk;", 5);
        fault("risk * 1;", 5);
        fault("risk + 1;", 5);
        fault("risk 1 * + 1;", 9);
        fault("risk 1 < ;", 9);
        fault("risk 1 not 2;", 7);
        fault("risk 1;wet (1;worth 1;", 13);
        fault(";".repeat(160), 0);
        for (char c = 0; c < 256; c++) {
            boolean stands = c == ' ' || c == '\n' || c == '-' || c == '(' || c >= '0' && c <= '9';
            fault("risk " + c, stands ? 6 : 5);
            boolean goesOn = stands && c != '(' || c == ';' || c == '+' || c == '*' || c == '<' || c == '=';
            fault("risk 1" + c, goesOn ? 7 : 6);
        }
    }

    private void stands(String s) {
        x = new RiverDown();
        checks.due("text() of '" + s + "'", textOf(s), 1);
    }

    private void promise7Depth() {
        fresh("promise 7, how many are open");
        fault("risk ((((((1", 10);
        fault("risk ------1", 10);
        fault("risk not not not not not not 1", 25);
        fault("risk -(-(-(1", 10);
        fault("risk not (not (-(1", 16);
        fault("risk 1+((1*((-((1", 14);
        fault("risk (((((not 1", 10);
        fault("risk (((((-1", 10);
        fault("risk (((((1-(1", 12);
        fault("risk (((((1--1", 12);
        fault("risk (((((1 not", 12);
        stands("risk (((((1)))));wet 0;worth 0;");
        stands("risk -----1;wet 0;worth 0;");
        stands("risk not not not not not 1;wet 0;worth 0;");
        stands("risk -(-(-1));wet 0;worth 0;");
        stands("risk -1-1-1-1-1-1-1;wet 0;worth 0;");
        stands("risk -1*-1*-1*-1*-1*-1;wet 0;worth 0;");
        stands("risk (1)+(1)+(1)+(1)+(1)+(1);wet 0;worth 0;");
        stands("risk not 1 and not 1 and not 1 or not 1 or not 1 or not 1;wet 0;worth 0;");
        stands("risk (((((1-1-1)))));wet (((((1)))));worth -----1;");
        stands("risk not -1<(((1)))and((((( 1 )))));wet 0;worth 0;");
        stands("risk4;wet5;worth6;");
        stands("\n risk\n4 ;wet\n\n5;worth 6; \n");
    }

    private void comesTo(String e, int due) {
        x = new RiverDown();
        rule("risk 0;wet 0;worth " + e + ";");
        checks.due("worth of " + e, x.worth(), due);
    }

    private void promise7Meaning() {
        checks.begin("promise 7, what it comes to");
        comesTo("0007", 7);
        comesTo("1 + 2 * 3", 7);
        comesTo("10 - 2 - 3", 5);
        comesTo("(1 + 2) * 3", 9);
        comesTo("0 - -3", 3);
        comesTo("-3 * -4", 12);
        comesTo("-3 + 4", 1);
        comesTo("- - 5", 5);
        comesTo("2 < 3", 1);
        comesTo("3 < 3", 0);
        comesTo("-1 < 0", 1);
        comesTo("3 = 1 + 2", 1);
        comesTo("3 = 2", 0);
        comesTo("not 0", 1);
        comesTo("not 5", 0);
        comesTo("not not 5", 1);
        comesTo("not 3 < 2", 1);
        comesTo("not 0 and 0", 0);
        comesTo("not (0 and 0)", 1);
        comesTo("5", 5);
        comesTo("5 or 0", 1);
        comesTo("0 or 0", 0);
        comesTo("0 or -7", 1);
        comesTo("5 and 7", 1);
        comesTo("5 and 0", 0);
        comesTo("1 and 1", 1);
        comesTo("2 and 4", 1);
        comesTo("1 or 0 and 0", 1);
        comesTo("(1 or 0) and 0", 0);
        comesTo("0 and 0 or 1", 1);
        comesTo("(2 < 3) + (3 < 4) * 5", 6);
        comesTo("water", 4);
        comesTo("deep", 3);
        comesTo("load", 40);
        comesTo("fall + rocks + looked", 0);
        comesTo("9002 * 9737 * 49", 3930);
        comesTo("9999 * 9999 * 9999 < 0", 1);
        fresh("promise 7, names of a place");
        x.place(641);
        x.set(3, 0, 1);
        x.doing(RUN, 0);
        rule("risk fall * 10 + rocks ; wet looked * 9 + water ; worth 0;");
        checks.due("risk", x.told(0, 0, 2), 64);
        checks.due("wets", x.told(0, 0, 3), 13);
        rule("risk load + deep ; wet rocks ; worth 0;");
        checks.due("risk", x.told(0, 0, 2), 43);
        checks.due("wets", x.told(0, 0, 3), 4);
    }

    private void promise8() {
        fresh("promise 8");
        textOf("risk 1;wet 1;worth 1;");
        textOf("risk 2;wet 2;worth 2;");
        checks.due("force(2)", x.force(2), 0);
        checks.due("worth()", x.worth(), 2);
        checks.due("force(1)", x.force(1), 2);
        checks.due("worth()", x.worth(), 1);
        for (int bad : new int[] {-1, 3, 6, FAR, DEEPEST}) {
            checks.due("force(" + bad + ")", x.force(bad), RiverDown.BAD);
        }
        checks.due("count(4)", x.count(4), 1);
        checks.due("force(1)", x.force(1), 1);
        checks.due("force(0)", x.force(0), 1);
        checks.due("worth()", x.worth(), 400);
    }

    private void promise9() {
        fresh("promise 9, THE RULE at first");
        x.place(991);
        x.doing(RUN, 0);
        checks.due("risk: fall * 4 + rocks", x.told(0, 0, 2), 45);
        checks.due("wets: fall + deep", x.told(0, 0, 3), 12);
        x.set(3, 0, 1);
        checks.due("risk, looked at", x.told(0, 0, 2), 36);
        checks.due("wets, looked at", x.told(0, 0, 3), 11);
        fresh("promise 9");
        x.place(991);
        x.set(3, 0, 1);
        checks.due("worth()", x.worth(), 400);
        x.set(7, 0, 99);
        checks.due("worth()", x.worth(), 990);
        rule("risk 0;wet 0;worth fall + rocks + looked + water * 10 + deep;");
        checks.due("worth() without a place's numbers", x.worth(), 43);
        rule("risk 0;wet 0;worth 9999 + 1;");
        checks.due("worth(), bounded", x.worth(), 9999);
        rule("risk 0;wet 0;worth -1;");
        checks.due("worth(), bounded", x.worth(), 0);
    }

    // ---- told ways

    private void refusesWays(String call, java.util.function.IntToLongFunction asked, boolean numbers, long bad, long missing) {
        x.sheet(3, -1, 0);
        for (int sheet : new int[] {-1, 4, FAR, DEEPEST}) {
            checks.due(call + " of sheet " + sheet, asked.applyAsLong(sheet), bad);
        }
        checks.due(call + " of a missing sheet", asked.applyAsLong(3), missing);
        x.sheet(3, 2, x.count(0) + 1);
        checks.due(call + " of a longer sheet", asked.applyAsLong(3), bad);
        x.sheet(3, 2, x.count(0) - 1);
        checks.due(call + " of a shorter sheet", asked.applyAsLong(3), bad);
        x.sheet(3, 2, x.count(0));
        checks.holds(call + " of a way", asked.applyAsLong(3) != bad);
        for (int number : new int[] {-1, x.count(1), FAR, DEEPEST}) {
            x.cell(3, x.count(0) - 1, number);
            checks.due(call + " with the number " + number, asked.applyAsLong(3), numbers ? bad : x.count(0) - 1);
        }
    }

    private void promise10() {
        fresh("promise 10");
        x.place(0);
        x.place(100);
        x.doing(RUN, 0);
        rule("risk 50 - 40 * fall;wet 0;worth 1;");
        x.set(6, 0, 2);
        way(0, 0, 0);
        long[] behindFirst = {250000000, 500000000, 250000000, 0, 0, 0, 0};
        long[] behindSecond = {250000000 + 50000000 + 2500000, 450000000 + 45000000, 202500000, 0, 0, 0, 0};
        for (int b = 0; b <= 6; b++) {
            checks.due("parts(0, 0, " + b + ")", x.parts(0, 0, b), behindFirst[b]);
            checks.due("parts(0, 1, " + b + ")", x.parts(0, 1, b), behindSecond[b]);
        }
        String before = state();
        for (int bad : new int[] {-1, 7, FAR, DEEPEST}) {
            checks.due("parts(0, 0, " + bad + ")", x.parts(0, 0, bad), RiverDown.NO);
        }
        for (int bad : new int[] {-1, 2, FAR, DEEPEST}) {
            checks.due("parts(0, " + bad + ", 0)", x.parts(0, bad, 0), RiverDown.NO);
        }
        unchanged(before);
        refusesWays("parts", s -> x.parts(s, 0, 0), true, RiverDown.NO, RiverDown.NO);
        x.sheet(1, 0, 2);
        x.cell(1, 0, 256);
        checks.due("parts of bytes", x.parts(1, 1, 2), 202500000);
    }

    /** With 5 and 6 boats parts times cases is more than a long holds. */
    private void promise10Exact() {
        checks.begin("promise 10, exact quotients");
        partsBy(6, 100, 1000000000, 0, 0, 0, 0, 0, 0);
        partsBy(6, 0, 0, 0, 0, 0, 0, 0, 1000000000);
        partsBy(6, 1, 0, 0, 147, 19405, 1440894, 57059402, 941480152);
        partsBy(6, 99, 941480149, 57059402, 1440894, 19405, 147, 0, 3);
        partsBy(5, 100, 1000000000, 0, 0, 0, 0, 0, 0);
        partsBy(5, 99, 950990049, 48029800, 970299, 9801, 49, 2, 0);
        partsBy(0, 50, 1000000000, 0, 0, 0, 0, 0, 0);
    }

    /** One place, passed at a risk by so many boats. */
    private void partsBy(int boats, int risk, long... due) {
        x = new RiverDown();
        x.place(0);
        x.doing(RUN, 0);
        x.set(6, 0, boats);
        way(0, 0);
        rule("risk " + risk + ";wet 0;worth 1;");
        for (int b = 0; b <= 6; b++) {
            checks.due("risk " + risk + " of " + boats + " boats: parts(0, 0, " + b + ")", x.parts(0, 0, b), due[b]);
        }
    }

    private void promise11() {
        fresh("promise 11");
        x.doing(RUN, 0);
        x.doing(CARRY, 5);
        x.sheet(0, 0, 0);
        checks.due("mean(0) without places", x.mean(0), 1600);
        x.place(0);
        x.place(100);
        rule("risk 33;wet fall;worth 0;");
        x.set(6, 0, 1);
        way(0, 0, 0);
        checks.due("mean(0), cut toward 0", x.mean(0), -6);
        way(0, 1, 0);
        checks.due("mean(0) with a carry", x.mean(0), -60);
        rule("risk 50;wet 1;worth 101;");
        way(0, 0, 0);
        checks.due("mean(0): 25.25 less 10 and 5", x.mean(0), 10);
        rule("risk 50;wet 99;worth 9999;");
        x.set(6, 0, 6);
        x.set(7, 0, 99);
        checks.due("mean(0): 14998.5 less 5940 and 2970", x.mean(0), 6088);
        refusesWays("mean", s -> x.mean(s), true, RiverDown.NO, RiverDown.NO);
    }

    private void promise12() {
        fresh("promise 12");
        x.doing(CARRY, 0);
        x.doing(RUN, 0);
        x.sheet(0, 1, 0);
        checks.due("takes(0, 0) without places", x.takes(0, 0), 0);
        checks.due("takes(0, 1) without places", x.takes(0, 1), -1);
        x.place(0);
        x.place(0);
        x.place(0);
        way(0, 0, 1, 0);
        checks.due("takes(0, 0)", x.takes(0, 0), 8);
        checks.due("takes(0, 1)", x.takes(0, 1), RiverDown.NONE);
        x.set(8, 0, 8);
        checks.due("takes(0, 1) with just enough", x.takes(0, 1), RiverDown.NONE);
        x.set(8, 0, 7);
        checks.due("takes(0, 1)", x.takes(0, 1), 2);
        x.set(8, 0, 3);
        checks.due("takes(0, 1)", x.takes(0, 1), 0);
        for (int bad : new int[] {-1, 2, FAR, DEEPEST}) {
            checks.due("takes(0, " + bad + ")", x.takes(0, bad), RiverDown.BAD);
            checks.due("takes(1, " + bad + ") of a missing one", x.takes(1, bad), RiverDown.BAD);
        }
        refusesWays("takes", s -> x.takes(s, 0), true, RiverDown.BAD, -11);
        refusesWays("takes 1", s -> x.takes(s, 1), true, RiverDown.BAD, -11);
    }

    private void promise13() {
        fresh("promise 13");
        x.doing(RUN, 0);
        x.sheet(0, 0, 0);
        checks.due("odds(0, 4) without places", x.odds(0, 4), 1000000000);
        checks.due("odds(0, 5) without places", x.odds(0, 5), 0);
        x.place(0);
        rule("risk 50;wet 0;worth 0;");
        x.set(6, 0, 2);
        way(0, 0);
        long[] due = {1000000000, 750000000, 250000000, 0, 0, 0, 0, 0};
        for (int k = 0; k <= 7; k++) {
            checks.due("odds(0, " + k + ")", x.odds(0, k), due[k]);
        }
        x.set(6, 0, 6);
        checks.due("odds(0, 6)", x.odds(0, 6), 15625000);
        for (int bad : new int[] {-1, 8, FAR, DEEPEST}) {
            checks.due("odds(0, " + bad + ")", x.odds(0, bad), RiverDown.NO);
        }
        refusesWays("odds", s -> x.odds(s, 0), true, RiverDown.NO, RiverDown.NO);
    }

    /** By the seed 0 come 48, 38, 75, 88, 38, 48, 18, 11; by -1 57, 28, 79, 73, 6, 60, 3, 75. */
    private void promise14() {
        fresh("promise 14");
        x.doing(RUN, 0);
        x.sheet(0, 2, 0);
        checks.due("drawn(0, 0) without places", x.drawn(0, 0), 4);
        x.place(0);
        way(0, 0);
        rule("risk 48;wet 0;worth 0;");
        checks.due("drawn(0, 0): 38 is lost, 48 not", x.drawn(0, 0), 3);
        rule("risk 49;wet 0;worth 0;");
        checks.due("drawn(0, 0): 48, 38 are lost", x.drawn(0, 0), 2);
        checks.due("drawn(0, -1): 28 is lost", x.drawn(0, -1), 3);
        x.place(0);
        way(0, 0, 0);
        checks.due("drawn(0, 0): 48, 38; behind it 38, 48", x.drawn(0, 0), 0);
        checks.due("drawn(0, -1): 28; behind it 6, 3", x.drawn(0, -1), 1);
        x.set(6, 0, 0);
        checks.due("drawn(0, 0) of no boats", x.drawn(0, 0), 0);
        x.set(6, 0, 4);
        rule("risk 0;wet 0;worth 0;");
        checks.due("drawn(0, 5) without risk", x.drawn(0, 5), 4);
        rule("risk 100;wet 0;worth 0;");
        checks.due("drawn(0, 5) where all are lost", x.drawn(0, 5), 0);
        x.force(0);
        refusesWays("drawn", s -> x.drawn(s, 7), true, RiverDown.BAD, -11);
    }

    private void promise15() {
        fresh("promise 15");
        x.sheet(0, 0, 0);
        checks.due("judge(0) without places", x.judge(0), RiverDown.NONE);
        x.place(81);
        x.place(0);
        x.doing(CARRY, 0);
        x.doing(ROPE, 0);
        x.doing(TRACK, 0);
        way(0, 0, 1);
        checks.due("judge(0)", x.judge(0), RiverDown.NONE);
        way(0, 1, 1);
        checks.due("judge(0): no rope among rocks", x.judge(0), 0);
        way(0, 0, 0);
        checks.due("judge(0): no carry without a bank", x.judge(0), 1);
        way(0, 2, 1);
        checks.due("judge(0)", x.judge(0), RiverDown.NONE);
        x.set(4, 0, 7);
        checks.due("judge(0): no track in high water", x.judge(0), 0);
        x.set(2, 1, 1);
        x.set(1, 0, 0);
        refusesWays("judge", s -> x.judge(s), false, RiverDown.BAD, -11);
    }

    // ---- the best

    /** Two places; a run that risks 20 and wets 2, a carry that takes 4 and wets 1. */
    private void runOrCarry() {
        x.place(1);
        x.place(0);
        x.doing(RUN, 0);
        x.doing(CARRY, 1);
        rule("risk 20 - 20 * looked;wet 2;worth 1000;");
    }

    private void promise16() {
        fresh("promise 16");
        checks.due("value(0, 400) without places", x.value(0, 400), 1600);
        checks.due("value(1, 400) without places", x.value(1, 400), RiverDown.NO);
        runOrCarry();
        checks.due("value(2, 300)", x.value(2, 300), 3000);
        checks.due("value(2, 360)", x.value(2, 360), 3000);
        checks.due("value(1, 100): 800 - 20", x.value(1, 100), 780);
        checks.due("value(1, 200): 1600 - 40", x.value(1, 200), 1560);
        checks.due("value(1, 0)", x.value(1, 0), 0);
        checks.due("value(0, 103): 624 - 20", x.value(0, 103), 604);
        checks.due("value(0, 104): 780 - 10", x.value(0, 104), 770);
        checks.due("value(0, 160)", x.value(0, 160), 770);
        checks.due("value(0, 203)", x.value(0, 203), 1208);
        rule("risk 20;wet 40;worth 100;");
        checks.due("value(1, 100), 0 at least", x.value(1, 100), 0);
        for (int bad : new int[] {-1, -100, 61, 99, 161, 661, 700, 760, FAR, DEEPEST}) {
            checks.due("value(0, " + bad + ")", x.value(0, bad), RiverDown.NO);
            checks.due("value(2, " + bad + ")", x.value(2, bad), RiverDown.NO);
        }
        for (int bad : new int[] {-1, 3, FAR, DEEPEST}) {
            checks.due("value(" + bad + ", 100)", x.value(bad, 100), RiverDown.NO);
        }
        fresh("promise 16, none");
        x.place(1);
        x.place(0);
        checks.due("value(0, 660) without doings", x.value(0, 660), -1);
        x.doing(CARRY, 0);
        checks.due("value(1, 660) without a bank", x.value(1, 660), -1);
        checks.due("value(0, 660) with no way farther on", x.value(0, 660), -1);
        x.set(2, 1, 1);
        checks.due("value(0, 407)", x.value(0, 407), -1);
        checks.due("value(0, 408)", x.value(0, 408), 1600);
        checks.due("value(0, 7) of no boats", x.value(0, 7), -1);
        checks.due("value(0, 8) of no boats", x.value(0, 8), 0);
        checks.due("value(1, 660)", x.value(1, 660), 2400);
    }

    private void promise17() {
        fresh("promise 17");
        checks.due("best(0, 400) without places", x.best(0, 400), RiverDown.BAD);
        runOrCarry();
        checks.due("best(0, 103)", x.best(0, 103), 0);
        checks.due("best(0, 104)", x.best(0, 104), 1);
        checks.due("best(1, 160)", x.best(1, 160), 0);
        checks.due("best(0, 60): of like ones the first", x.best(0, 60), 0);
        x.doing(CARRY, 1);
        checks.due("best(0, 104): of like ones the first", x.best(0, 104), 1);
        x.doing(CARRY, 0);
        checks.due("best(0, 104)", x.best(0, 104), 3);
        String before = state();
        for (int bad : new int[] {-1, 61, 99, 661, 700, FAR, DEEPEST}) {
            checks.due("best(0, " + bad + ")", x.best(0, bad), RiverDown.BAD);
        }
        for (int bad : new int[] {-1, 2, FAR, DEEPEST}) {
            checks.due("best(" + bad + ", 100)", x.best(bad, 100), RiverDown.BAD);
        }
        unchanged(before);
        fresh("promise 17, none");
        x.place(0);
        checks.due("best(0, 460) without doings", x.best(0, 460), RiverDown.NONE);
        x.doing(ROPE, 0);
        checks.due("best(0, 400)", x.best(0, 400), RiverDown.NONE);
        checks.due("best(0, 401)", x.best(0, 401), 0);
    }

    private void promise18() {
        fresh("promise 18");
        checks.due("look(0) without places", x.look(0), RiverDown.NO);
        runOrCarry();
        x.set(6, 0, 1);
        String before = state();
        checks.due("look(1): 1000 - 20 - 10 less 770", x.look(1), 200);
        checks.due("look(0): 780 - 10 less 770", x.look(0), 0);
        unchanged(before);
        x.set(8, 0, 4);
        checks.due("look(1) loses the carry: 980 * 0.8 - 20 less 770", x.look(1), -6);
        x.set(8, 0, 0);
        checks.due("look(1) with no half day: 764 less 604", x.look(1), 160);
        x.set(3, 0, 1);
        x.set(3, 1, 1);
        x.set(8, 0, 24);
        checks.due("look(1), looked at before", x.look(1), 0);
        checks.due("LOOKED stays", x.set(3, 1, 1), 1);
        for (int bad : new int[] {-1, 2, 12, FAR, DEEPEST}) {
            checks.due("look(" + bad + ")", x.look(bad), RiverDown.NO);
        }
        fresh("promise 18, -1 counts as 0");
        x.place(1);
        x.doing(CARRY, 0);
        x.set(8, 0, 4);
        checks.due("look(0): none less 1600", x.look(0), -1600);
        x.set(8, 0, 3);
        checks.due("look(0): none less none", x.look(0), 0);
        x.set(8, 0, 5);
        checks.due("look(0): with one half day less it still goes", x.look(0), 0);
        x.doing(ROPE, 0);
        x.set(8, 0, 0);
        checks.due("look(0) with no half day", x.look(0), 0);
    }

    private void promise19() {
        fresh("promise 19");
        rule("risk 0;wet 0;worth 100 * water;");
        checks.due("rises(2) without places", x.rises(2), 800);
        x.place(1);
        x.doing(TRACK, 0);
        x.set(6, 0, 1);
        String before = state();
        checks.due("rises(0)", x.rises(0), 0);
        checks.due("rises(2): 588 less 392", x.rises(2), 196);
        checks.due("rises(3): none less 392", x.rises(3), -392);
        unchanged(before);
        x.doing(RUN, 0);
        checks.due("rises(5): 900 less 400", x.rises(5), 500);
        checks.due("rises(9): 9 at most", x.rises(9), 500);
        x.set(4, 0, 9);
        checks.due("rises(9) at most", x.rises(9), 0);
        for (int bad : new int[] {-1, 10, FAR, DEEPEST}) {
            checks.due("rises(" + bad + ")", x.rises(bad), RiverDown.NO);
        }
        fresh("promise 19, SNOW stays");
        x.place(1);
        x.doing(CARRY, 0);
        x.set(8, 0, 4);
        checks.due("rises(1)", x.rises(1), 0);
    }

    private void promise20() {
        fresh("promise 20");
        checks.due("more(0) without places", x.more(0), 400);
        checks.due("more(1) without places", x.more(1), 0);
        x.place(1);
        x.doing(CARRY, 0);
        String before = state();
        checks.due("more(0)", x.more(0), 400);
        checks.due("more(1)", x.more(1), 0);
        unchanged(before);
        x.set(8, 0, 2);
        checks.due("more(0)", x.more(0), 0);
        checks.due("more(1)", x.more(1), 1600);
        x.set(8, 0, 1);
        checks.due("more(1)", x.more(1), 0);
        for (int snow : new int[] {59, 60}) {
            x.set(8, 0, snow);
            checks.due("more(1) with " + snow, x.more(1), 0);
        }
        x.set(6, 0, 5);
        checks.due("more(0) with 5", x.more(0), 400);
        x.set(6, 0, 6);
        checks.due("more(0) with 6", x.more(0), 0);
        for (int bad : new int[] {-1, 2, FAR, DEEPEST}) {
            checks.due("more(" + bad + ")", x.more(bad), RiverDown.NO);
        }
    }

    private void promise21() {
        fresh("promise 21");
        checks.due("worst() without places", x.worst(), RiverDown.NONE);
        x.place(101);
        x.place(300);
        x.place(300);
        x.place(201);
        checks.due("worst() without doings", x.worst(), RiverDown.NONE);
        x.doing(CARRY, 0);
        checks.due("worst(): the last place has a best", x.worst(), 3);
        x.doing(RUN, 0);
        checks.due("worst(): of like ones the first", x.worst(), 1);
        x.set(0, 2, 4);
        checks.due("worst()", x.worst(), 2);
        x.set(3, 2, 1);
        checks.due("worst()", x.worst(), 1);
        x.set(2, 1, 1);
        x.set(2, 2, 1);
        checks.due("worst() with half days for all carries", x.worst(), 0);
        x.set(8, 0, 3);
        checks.due("worst() without one", x.worst(), 1);
        fresh("promise 21, half days");
        x.place(1);
        x.place(1);
        x.doing(CARRY, 0);
        x.set(8, 0, 7);
        checks.due("worst(): of the first there is no best", x.worst(), 1);
        x.set(8, 0, 3);
        checks.due("worst()", x.worst(), RiverDown.NONE);
    }

    private void promise22() {
        fresh("promise 22");
        checks.due("last() without places", x.last(), 0);
        x.place(1);
        checks.due("last() without doings", x.last(), RiverDown.NONE);
        x.doing(CARRY, 0);
        checks.due("last()", x.last(), 4);
        x.place(80);
        checks.due("last() without a bank", x.last(), RiverDown.NONE);
        x.set(2, 1, 1);
        checks.due("last()", x.last(), 8);
        x.doing(TRACK, 0);
        checks.due("last()", x.last(), 4);
        x.set(4, 0, 7);
        checks.due("last() in high water", x.last(), 8);
        x.doing(ROPE, 0);
        checks.due("last()", x.last(), 5);
        x.doing(RUN, 0);
        checks.due("last()", x.last(), 0);
        fresh("promise 22, the most");
        x.doing(CARRY, 0);
        for (int i = 0; i < 12; i++) {
            x.place(1);
        }
        checks.due("last()", x.last(), 48);
        checks.due("value(0, 447)", x.value(0, 447), -1);
        checks.due("value(0, 448)", x.value(0, 448), 1600);
    }

    private void promise23And24() {
        fresh("promises 23 and 24");
        checks.due("back() without an image", x.back(), RiverDown.STATE);
        checks.due("image() without places", x.image(), 0);
        x.place(561);
        x.set(3, 0, 1);
        x.doing(RUN, 0);
        checks.due("back(): the place stays", x.back(), 1);
        checks.due("LOOKED of it, too", x.set(3, 0, 1), 1);
        textOf("risk 1;wet 1;worth 1;");
        x.force(1);
        int[] v = {0, 1, 0, 1, 7, 8, 2, 9, 10};
        for (int what = 0; what < 9; what++) {
            x.set(what, 0, v[what]);
        }
        checks.due("image()", x.image(), 1);
        String before = state();
        for (int what = 0; what < 9; what++) {
            x.set(what, 0, what == 2 ? 1 : what == 3 ? 0 : 5);
        }
        x.force(0);
        checks.due("back()", x.back(), 1);
        checks.holds("all is as in the image", before.equals(state()));
        checks.due("count(4)", x.count(4), 1);
        x.set(0, 0, 9);
        checks.due("place(991)", x.place(991), 1);
        checks.due("doing(2, 3)", x.doing(CARRY, 3), 1);
        x.feed(3, 0);
        way(2, 1, 1);
        textOf("risk 1;");
        x.feed(2, 0);
        checks.due("back(), again", x.back(), 2);
        checks.due("the place that came since stays", x.set(0, 1, 9), 9);
        checks.due("the doing that came since stays", x.count(1), 2);
        checks.due("THE TAPE stays", x.count(3), 2);
        checks.due("TEXTS stay", x.count(2), 2);
        checks.due("SHEETS stay", x.takes(2, 0), 8);
        for (int what = 0; what < 9; what++) {
            checks.due("set(" + what + ")", x.set(what, 0, v[what]), v[what]);
        }
        x.set(0, 1, 4);
        checks.due("image() anew", x.image(), 2);
        x.set(0, 1, 5);
        checks.due("back()", x.back(), 2);
        checks.due("by the newer image", x.set(0, 1, 0), 4);
    }

    private void promise25() {
        fresh("promise 25");
        x.place(0);
        x.place(0);
        x.doing(RUN, 0);
        x.doing(RUN, 0);
        x.doing(RUN, 0);
        textOf("risk 1;wet 1;worth 1;");
        x.force(1);
        x.feed(5, 0);
        x.set(4, 0, 6);
        x.set(5, 0, 7);
        x.set(6, 0, 1);
        x.set(7, 0, 88);
        x.set(8, 0, 59);
        int[] due = {2, 3, 2, 5, 1, 6, 7, 1, 88, 59};
        for (int i = 0; i < due.length; i++) {
            checks.due("count(" + i + ")", x.count(i), due[i]);
        }
        for (int bad : new int[] {-1, 10, FAR, DEEPEST}) {
            checks.due("count(" + bad + ")", x.count(bad), RiverDown.BAD);
        }
    }

    // ---- the host

    private void promise26() {
        fresh("promise 26");
        for (int bad : new int[] {-1, 4, FAR, DEEPEST}) {
            checks.due("sheet(" + bad + ", 0, 1)", x.sheet(bad, 0, 1), RiverDown.BAD);
            checks.due("sheet(" + bad + ", 0, -1)", x.sheet(bad, 0, -1), RiverDown.BAD);
            checks.due("sheet(" + bad + ", -1, 1)", x.sheet(bad, -1, 1), RiverDown.BAD);
        }
        for (int bad : new int[] {-2, 3, FAR, DEEPEST}) {
            checks.due("sheet(0, " + bad + ", 1)", x.sheet(0, bad, 1), RiverDown.BAD);
            checks.due("sheet(0, " + bad + ", -1)", x.sheet(0, bad, -1), RiverDown.BAD);
        }
        for (int sort = 0; sort < 3; sort++) {
            checks.due("sheet(0, sort, 41)", x.sheet(0, sort, 41), RiverDown.BAD);
            checks.due("sheet(0, sort, -1)", x.sheet(0, sort, -1), -14);
            checks.due("sheet(0, sort, least)", x.sheet(0, sort, DEEPEST), -14);
            checks.due("it is still missing", x.cell(0, 0, 0), -11);
        }
        for (int sheet = 0; sheet < 4; sheet++) {
            checks.due("sheet(40)", x.sheet(sheet, sheet % 3, 40), 1);
            checks.due("its last item", x.cell(sheet, 39, 1), 1);
            checks.due("behind its last item", x.cell(sheet, 40, 1), -12);
            checks.due("a refused size", x.sheet(sheet, 0, 41), RiverDown.BAD);
            checks.due("its last item stays", x.cell(sheet, 39, 1), 1);
            checks.due("made missing", x.sheet(sheet, -1, FAR), 1);
            checks.due("it is missing", x.cell(sheet, 39, 1), -11);
            checks.due("made missing again", x.sheet(sheet, -1, DEEPEST), 1);
        }
        x.place(0);
        x.doing(RUN, 0);
        way(0, 5);
        checks.due("a number that is no doing", x.takes(0, 0), RiverDown.BAD);
        x.sheet(0, 2, 1);
        checks.due("all 0", x.takes(0, 0), 0);
    }

    private void promise27() {
        fresh("promise 27");
        x.doing(RUN, 0);
        x.doing(CARRY, 0);
        x.place(0);
        for (int bad : new int[] {-1, 4, FAR, DEEPEST}) {
            checks.due("cell(" + bad + ", 0, 0)", x.cell(bad, 0, 0), RiverDown.BAD);
        }
        checks.due("cell(0, -1, 0) of a missing one", x.cell(0, -1, 0), -11);
        x.sheet(0, 0, 1);
        x.cell(0, 0, 1);
        for (int bad : new int[] {-1, 1, 40, FAR, DEEPEST}) {
            checks.due("cell(0, " + bad + ", 0)", x.cell(0, bad, 0), -12);
        }
        checks.due("it stays", x.takes(0, 0), 4);
        x.sheet(1, 1, 1);
        x.sheet(2, 2, 1);
        int[] numbers = {1, 257, 65537, -255, -65535};
        int[][] due = {{4, 4, 4}, {4, -2, -2}, {4, 4, -2}, {4, -2, -2}, {4, 4, -2}};
        for (int i = 0; i < numbers.length; i++) {
            for (int sheet = 0; sheet < 3; sheet++) {
                checks.due("cell(" + sheet + ", 0, " + numbers[i] + ")", x.cell(sheet, 0, numbers[i]), 1);
                checks.due("takes(" + sheet + ", 0)", x.takes(sheet, 0), due[i][sheet]);
            }
        }
        x.sheet(3, 0, 0);
        checks.due("cell(3, 0, 0) of none", x.cell(3, 0, 0), -12);
    }

    private void promise28() {
        fresh("promise 28");
        x.sheet(0, 1, 5);
        for (int bad : new int[] {-1, 4, FAR, DEEPEST}) {
            checks.due("copy(" + bad + ", 0, 0, 0, 1)", x.copy(bad, 0, 0, 0, 1), RiverDown.BAD);
            checks.due("copy(0, 0, " + bad + ", 0, 1)", x.copy(0, 0, bad, 0, 1), RiverDown.BAD);
            checks.due("copy(1, 0, " + bad + ", 0, 1) of a missing one", x.copy(1, 0, bad, 0, 1), RiverDown.BAD);
        }
        checks.due("copy(0, 0, 1, 0, -1) to a missing one", x.copy(0, 0, 1, 0, -1), -11);
        checks.due("copy(1, 0, 0, 0, -1) of a missing one", x.copy(1, 0, 0, 0, -1), -11);
        checks.due("copy(1, 0, 1, 0, 0) of a missing one", x.copy(1, 0, 1, 0, 0), -11);
        x.sheet(1, 2, 5);
        checks.due("copy(0, 0, 1, 0, -1) to another sort", x.copy(0, 0, 1, 0, -1), -13);
        checks.due("copy(0, 9, 1, 0, 0) to another sort", x.copy(0, 9, 1, 0, 0), -13);
        x.sheet(1, 1, 3);
        int[][] outside = {{0, 0, -1}, {-1, 0, 1}, {0, -1, 1}, {5, 0, 1}, {0, 3, 1}, {0, 0, 4}, {3, 0, 3}, {6, 0, 0},
            {0, 4, 0}, {FAR, 0, 1}, {0, FAR, 1}, {1, 1, FAR}, {FAR, FAR, FAR}, {0, 0, DEEPEST}, {-1, 0, 0}, {DEEPEST, 0, 1}};
        for (int[] o : outside) {
            checks.due("copy(0, " + o[0] + ", 1, " + o[1] + ", " + o[2] + ")", x.copy(0, o[0], 1, o[1], o[2]), -12);
        }
        checks.due("copy(0, 5, 1, 3, 0)", x.copy(0, 5, 1, 3, 0), 0);
        checks.due("copy(0, 2, 1, 0, 3)", x.copy(0, 2, 1, 0, 3), 3);
        checks.due("copy(0, 0, 0, 0, 5)", x.copy(0, 0, 0, 0, 5), 5);
        promise28Moves();
    }

    private void promise28Moves() {
        fresh("promise 28, moved");
        for (int i = 0; i < 5; i++) {
            x.place(0);
            x.doing(i == 0 ? RUN : EASED, i == 0 ? 0 : 3 * i - 3);
        }
        way(0, 0, 1, 2, 3, 4);
        checks.due("copy(0, 0, 0, 1, 4)", x.copy(0, 0, 0, 1, 4), 4);
        takesInTurn(0, 0, 0, 1, 2, 3);
        way(0, 0, 1, 2, 3, 4);
        checks.due("copy(0, 1, 0, 0, 4)", x.copy(0, 1, 0, 0, 4), 4);
        takesInTurn(0, 1, 2, 3, 4, 4);
        way(1, 4, 4, 4, 4, 4);
        checks.due("copy(0, 0, 1, 3, 2)", x.copy(0, 0, 1, 3, 2), 2);
        takesInTurn(1, 4, 4, 4, 1, 2);
        takesInTurn(0, 1, 2, 3, 4, 4);
        way(2, -1, FAR, 0, 0, 0);
        checks.due("copy(2, 0, 1, 0, 2)", x.copy(2, 0, 1, 0, 2), 2);
        checks.due("judge(1)", x.judge(1), 0);
    }

    /** Doing i takes i here, so what a way takes to each place tells its numbers. */
    private void takesInTurn(int sheet, int... due) {
        int sum = 0;
        for (int i = 0; i < due.length; i++) {
            x.set(8, 0, sum);
            int tooLong = x.takes(sheet, 1);
            checks.holds("item " + i + " of sheet " + sheet + " is " + due[i], due[i] == 0 ? tooLong != i : tooLong == i);
            sum += due[i];
        }
        checks.due("takes(" + sheet + ", 0)", x.takes(sheet, 0), sum);
    }

    private void promise29() {
        fresh("promise 29");
        for (int bad : new int[] {-1, 4, FAR, DEEPEST}) {
            checks.due("places(" + bad + ", 0, 0, 0)", x.places(bad, 0, 0, 0), RiverDown.BAD);
        }
        for (int bad : new int[] {-1, 3, FAR, DEEPEST}) {
            checks.due("places(0, " + bad + ", 0, 0)", x.places(0, bad, 0, 0), RiverDown.BAD);
        }
        for (int bad : new int[] {-1, 13, FAR, DEEPEST}) {
            checks.due("places(0, 0, 0, " + bad + ")", x.places(0, 0, 0, bad), RiverDown.BAD);
        }
        checks.due("places(0, 0, -1, 1) of a missing one", x.places(0, 0, -1, 1), -11);
        x.sheet(0, 1, 5);
        int[] items = {10, 991, 2, 321, 1000};
        for (int i = 0; i < items.length; i++) {
            x.cell(0, i, items[i]);
        }
        checks.due("places(0, 0, -1, 1) of another sort", x.places(0, 0, -1, 1), -13);
        checks.due("places(0, 2, 0, 0) of another sort", x.places(0, 2, 0, 0), -13);
        for (int bad : new int[] {-1, 5, FAR, DEEPEST}) {
            checks.due("places(0, 1, " + bad + ", 1)", x.places(0, 1, bad, 1), -12);
            checks.due("places(0, 1, " + bad + ", 0)", x.places(0, 1, bad, 0), 0);
        }
        checks.due("places(0, 1, -1, 3)", x.places(0, 1, -1, 3), -12);
        checks.due("count(0)", x.count(0), 0);
        checks.due("places(0, 1, 1, 4)", x.places(0, 1, 1, 4), 2);
        checks.due("count(0)", x.count(0), 2);
        checks.due("fall of the first", x.set(0, 0, 9), 9);
        checks.due("fall of the second", x.set(0, 1, 3), 3);
        checks.due("rocks of the second", x.set(1, 1, 2), 2);
        checks.due("places(0, 1, 3, 3)", x.places(0, 1, 3, 3), -12);
        checks.due("what stood ahead came", x.count(0), 3);
        promise29Full();
    }

    private void promise29Full() {
        fresh("promise 29, full");
        x.sheet(2, 2, 12);
        checks.due("places(2, 2, 0, 12)", x.places(2, 2, 0, 12), 12);
        checks.due("places(2, 2, 0, 12) again", x.places(2, 2, 0, 12), 0);
        checks.due("places(2, 2, 5, 12)", x.places(2, 2, 5, 12), -12);
        checks.due("count(0)", x.count(0), 12);
        fresh("promise 29, nearly full");
        x.sheet(0, 0, 12);
        x.cell(0, 11, -56);
        checks.due("places(0, 0, 0, 12): -56 is none", x.places(0, 0, 0, 12), 11);
        checks.due("places(0, 0, 0, 3)", x.places(0, 0, 0, 3), 1);
        checks.due("count(0)", x.count(0), 12);
    }

    private void promise30() {
        fresh("promise 30");
        checks.due("taken(0, 0) without doings", x.taken(0, 0), -11);
        for (int kind = RUN; kind <= TRACK; kind++) {
            x.doing(kind, kind + 3);
        }
        boolean[][] under = {
            {true, false, false, false, false, false},
            {true, true, false, false, false, false},
            {true, false, true, false, false, false},
            {true, false, false, true, false, false},
            {true, true, false, false, true, false},
            {true, false, true, false, false, true}};
        for (int doing = 0; doing < 6; doing++) {
            for (int k = 0; k < 6; k++) {
                checks.due("taken(" + doing + ", " + k + ")", x.taken(doing, k), under[doing][k] ? doing + 3 : -13);
            }
        }
        for (int bad : new int[] {-1, 6, FAR, DEEPEST}) {
            checks.due("taken(0, " + bad + ")", x.taken(0, bad), RiverDown.BAD);
            checks.due("taken(" + bad + ", " + bad + ")", x.taken(bad, bad), RiverDown.BAD);
            checks.due("taken(" + bad + ", 0)", x.taken(bad, 0), -11);
        }
    }
}
