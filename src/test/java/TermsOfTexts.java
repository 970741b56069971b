import java.util.ArrayList;
import java.util.List;

/** The sentences of 'Terms' about texts. */
final class TermsOfTexts extends Bench {
    private static final String FIRST = "risk fall * 4 + rocks - looked * 9 ; wet fall + deep - looked ; worth load * 10 ;";

    TermsOfTexts(Checks checks, Document document) {
        super(checks, document);
    }

    @Override
    void all() {
        tape();
        tokens();
        signs();
        blanks();
        text();
        ors();
        ands();
        nots();
        sums();
        terms();
        ones();
        words();
        wraps();
        truths();
        firstFault();
        endsTooEarly();
        faultyTokens();
        fiveOpen();
        tillTheyEnd();
        sixTexts();
        names();
        worth();
        firstRule();
    }

    /** A text has its fault at a place; the tape is empty then and no text came. */
    private void faultAt(int place, String s) {
        fresh();
        feeds(s);
        checks.due("text() of '" + s + "'", does("text"), -100 - place);
        answers(0, "count", 3);
        answers(1, "count", 2);
    }

    private void stands(String s) {
        fresh();
        feeds(s);
        checks.due("text() of '" + s + "'", does("text"), 1);
        answers(0, "count", 3);
        answers(2, "count", 2);
    }

    private void comesTo(int due, String e) {
        fresh();
        rule("risk 0;wet 0;worth " + e + ";");
        checks.due("worth of '" + e + "'", does("worth"), due);
    }

    private void tape() {
        sentence("Terms", "A TEXT is read from THE TAPE (160 bytes at most).");
        String end = ";wet 0;worth 7;";
        StringBuilder longest = new StringBuilder("risk 1");
        while (longest.length() + end.length() < 159) {
            longest.append("+1");
        }
        feeds(longest + end);
        answers(160, "feed", 1, ' ');
        answers(160, "count", 3);
        refuses(FULL, "feed", 1, ' ');
        answers(1, "text");
        answers(0, "force", 1);
        answers(7, "worth");
        answers(8, "feed", 8, 0);
        faultAt(0, ";".repeat(160));
        faultAt(160, "risk " + "1+".repeat(77) + "1");
        faultAt(160, "risk" + "-1".repeat(78));
    }

    private void tokens() {
        sentence("Terms", "TOKENS, each as long as can be:");
        stands("risk1;wet2;worth3;");
        stands("risk 1or 2and 3;wet not1;worth fall<rocks;");
        comesTo(12, "12");
        faultAt(0, "riskfall;");
        faultAt(5, "risk fallrocks;");
        faultAt(5, "risk notfall;");
        faultAt(5, "risk 12345;");
        faultAt(7, "risk 1 2;");
        faultAt(0, "ri sk 1;");
        sentence("Terms", "WORDS (a .. z),");
        faultAt(5, "risk `;");
        faultAt(5, "risk {;");
        faultAt(9, "risk fall`;");
        faultAt(9, "risk fall{;");
        faultAt(5, "risk fallz;");
        faultAt(5, "risk afall;");
        faultAt(5, "risk FALL;");
        faultAt(9, "risk fallA;");
        faultAt(9, "risk fallZ;");
        sentence("Terms", "NUMBERS (digits, 4 at most),");
        comesTo(0, "0");
        comesTo(9, "9");
        comesTo(9999, "9999");
        comesTo(8, "0008");
        faultAt(5, "risk 10000;");
        faultAt(5, "risk 00008;");
        faultAt(5, "risk /;");
        faultAt(5, "risk :;");
        faultAt(6, "risk 1/;");
        faultAt(6, "risk 1:;");
        faultAt(6, "risk 1.5;");
        faultAt(6, "risk 1a;");
        stands("risk 1234*9999;wet 0;worth 0;");
    }

    /** Each byte, ahead of a ONE and behind one. */
    private void signs() {
        sentence("Terms", "SIGNS ( ) ; + - * < = ;");
        stands("risk (1)+1-1*1<1;wet 1=1;worth 1;");
        for (char c = 0; c < 256; c++) {
            boolean digit = c >= '0' && c <= '9';
            boolean begins = c == ' ' || c == '\n' || c == '-' || c == '(' || digit;
            faultAt(begins ? 6 : 5, "risk " + c);
            boolean goesOn = c == ' ' || c == '\n' || c == ';' || c == '+' || c == '-' || c == '*' || c == '<' || c == '=' || digit;
            faultAt(goesOn ? 7 : 6, "risk 1" + c);
            boolean closes = goesOn && c != ';' || c == ')';
            faultAt(closes ? 8 : 7, "risk (1" + c);
        }
    }

    private void blanks() {
        sentence("Terms", "blanks (32, 10) may stand between.");
        stands("risk 1;wet 2;worth 3;");
        stands(" \n risk\n1\n;\nwet\n2 ;\n \nworth  3\n; \n\n ");
        stands("risk - 1 * ( 2 + 3 ) ;wet not 1 ;worth 1 < 2 ;");
        for (int b : new int[] {0, 9, 11, 12, 13, 31, 33, 127, 138, 160, 255}) {
            faultAt(4, "risk" + (char) b + "1;wet 2;worth 3;");
            faultAt(0, (char) b + "risk 1;wet 2;worth 3;");
            faultAt(21, "risk 1;wet 2;worth 3;" + (char) b);
        }
        faultAt(5, "risk fa ll;");
        faultAt(7, "risk 1\n2;");
    }

    private void text() {
        sentence("Terms", "TEXT: risk E ; wet E ; worth E ;");
        does("place", 0);
        does("doing", RUN, 0);
        rule("risk 11;wet 12;worth 13;");
        answers(11, "told", 0, 0, 2);
        answers(12, "told", 0, 0, 3);
        answers(13, "worth");
        faultAt(0, "");
        faultAt(0, "wet 1;risk 1;worth 1;");
        faultAt(0, "worth 1;");
        faultAt(0, ";risk 1;");
        faultAt(4, "risk;wet 1;worth 1;");
        faultAt(7, "risk 1 wet 1;worth 1;");
        faultAt(7, "risk 1;;wet 1;worth 1;");
        faultAt(7, "risk 1;risk 1;worth 1;");
        faultAt(7, "risk 1;worth 1;wet 1;");
        faultAt(10, "risk 1;wet;worth 1;");
        faultAt(13, "risk 1;wet 1;wet 1;");
        faultAt(18, "risk 1;wet 1;worth;");
        faultAt(20, "risk 1;wet 1;worth 1");
        faultAt(21, "risk 1;wet 1;worth 1;;");
        faultAt(21, "risk 1;wet 1;worth 1;1");
        faultAt(21, "risk 1;wet 1;worth 1;risk 1;");
    }

    private void ors() {
        sentence("Terms", "E: AND { or AND }.");
        comesTo(5, "5");
        comesTo(1, "5 or 0");
        comesTo(1, "0 or 5");
        comesTo(0, "0 or 0");
        comesTo(1, "0 or 0 or 7");
        comesTo(1, "1 or 1 and 0");
        comesTo(1, "0 and 0 or 1");
        faultAt(5, "risk or 1;");
        faultAt(9, "risk 1 or;");
        faultAt(10, "risk 1 or or 1;");
    }

    private void ands() {
        sentence("Terms", "AND: NOT { and NOT }.");
        comesTo(1, "5 and 3");
        comesTo(0, "5 and 0");
        comesTo(0, "0 and 5");
        comesTo(0, "1 and 1 and 0");
        comesTo(1, "1 and not 0 and 1");
        comesTo(0, "(1 or 1) and 0");
        faultAt(5, "risk and 1;");
        faultAt(10, "risk 1 and;");
        faultAt(11, "risk 1 and or 1;");
    }

    private void nots() {
        sentence("Terms", "NOT: not NOT, or SUM, perhaps < or = and a SUM.");
        comesTo(1, "not 0");
        comesTo(0, "not 7");
        comesTo(1, "not not 7");
        comesTo(1, "not 2 < 1");
        comesTo(0, "not 1 < 2");
        comesTo(1, "not 1 = 2");
        comesTo(0, "not 0 and 0");
        comesTo(1, "not 0 or 1");
        comesTo(0, "not 0 + 1");
        comesTo(1, "1 + 1 = 2");
        comesTo(1, "1 < 1 + 1");
        comesTo(1, "(1 < 2) < 3");
        faultAt(8, "risk not;");
        faultAt(7, "risk 1 not 1;");
        faultAt(5, "risk < 1;");
        faultAt(8, "risk 1 <;");
        faultAt(9, "risk 1 < not 1;");
        faultAt(9, "risk 1 < = 1;");
        faultAt(11, "risk 1 < 2 < 3;");
        faultAt(11, "risk 1 < 2 = 3;");
        faultAt(11, "risk 1 = 2 < 3;");
        faultAt(11, "risk 1 = 2 = 3;");
        faultAt(15, "risk not 1 < 2 < 3;");
    }

    private void sums() {
        sentence("Terms", "SUM: TERM { + or - TERM }.");
        comesTo(5, "10 - 2 - 3");
        comesTo(11, "10 - 2 + 3");
        comesTo(7, "1 + 2 * 3");
        comesTo(2, "1 - -1");
        comesTo(1, "-3 + 4");
        faultAt(5, "risk + 1;");
        faultAt(8, "risk 1 +;");
        faultAt(9, "risk 1 + + 1;");
        faultAt(9, "risk 1 + not 1;");
        faultAt(9, "risk 1 - * 1;");
    }

    private void terms() {
        sentence("Terms", "TERM: ONE { * ONE }.");
        comesTo(24, "2 * 3 * 4");
        comesTo(24, "2 * -3 * -4");
        comesTo(9, "(1 + 2) * 3");
        faultAt(5, "risk * 1;");
        faultAt(8, "risk 1 *;");
        faultAt(9, "risk 1 * * 1;");
        faultAt(9, "risk 1 * + 1;");
        faultAt(9, "risk 1 * not 1;");
    }

    private void ones() {
        sentence("Terms", "ONE: a NUMBER, a NAME, - ONE, ( E ).");
        comesTo(7, "7");
        comesTo(40, "load");
        comesTo(7, "--7");
        comesTo(7, "-(-7)");
        comesTo(7, "((7))");
        comesTo(2, "(1 or 0) + (not 0)");
        faultAt(6, "risk -;");
        faultAt(6, "risk ();");
        faultAt(7, "risk (1;");
        faultAt(6, "risk 1);");
        faultAt(8, "risk (1 2);");
        faultAt(7, "risk 1 (2);");
        faultAt(10, "risk fall rocks;");
        faultAt(7, "risk - not 1;");
        faultAt(7, "risk - + 1;");
        faultAt(6, "risk (or 1);");
    }

    private void words() {
        sentence("Terms", "NAMES are fall rocks water deep looked load;");
        for (String name : new String[] {"fall", "rocks", "water", "deep", "looked", "load"}) {
            stands("risk " + name + ";wet " + name + ";worth " + name + ";");
            faultAt(0, name + " 1;");
            faultAt(7, "risk 1 " + name + " 1;");
            faultAt(5, "risk " + name.substring(1) + ";");
            faultAt(5, "risk " + name.substring(0, name.length() - 1) + ";");
            faultAt(5, "risk " + name + "s;");
        }
        sentence("Terms", "risk, wet, worth, or, and, not are KEYS.");
        for (String key : new String[] {"risk", "wet", "worth", "or", "and", "not"}) {
            standsIf(key.equals("risk"), 0, key + " 1;wet 1;worth 1;");
            standsIf(key.equals("wet"), 7, "risk 1;" + key + " 1;worth 1;");
            standsIf(key.equals("worth"), 13, "risk 1;wet 1;" + key + " 1;");
            standsIf(false, 21, "risk 1;wet 1;worth 1;" + key + " 1;");
            standsIf(key.equals("not"), 5, "risk " + key + " 1;wet 1;worth 1;");
            standsIf(key.equals("or") || key.equals("and"), 7, "risk 1 " + key + " 1;wet 1;worth 1;");
            standsIf(false, 6, "risk -" + key + " 1;wet 1;worth 1;");
            standsIf(false, key.equals("not") ? 8 : 5, "risk " + key + ";wet 1;worth 1;");
        }
    }

    private void standsIf(boolean so, int fault, String s) {
        if (so) {
            stands(s);
        } else {
            faultAt(fault, s);
        }
    }

    /** 9999 * 9999 * 21 + 9999 * 4790 + 8416 is the greatest int. */
    private void wraps() {
        sentence("Terms", "An E is an int (32 bits, wrapping):");
        comesTo(1, "0 < 9999*9999*21+9999*4790+8416");
        comesTo(1, "9999*9999*21+9999*4790+8417 < 0");
        comesTo(1, "-(9999*9999*21+9999*4790+8416)-1 < 0");
        comesTo(1, "0 < -(9999*9999*21+9999*4790+8416)-2");
        comesTo(1, "8192*8192*32 < 0");
        comesTo(1, "0 < 8192*8192*31");
        comesTo(1, "8192*8192*64 = 0");
        comesTo(5, "8192*8192*64 + 5");
        comesTo(1, "-(8192*8192*32) = 8192*8192*32");
        comesTo(3930, "9002 * 9737 * 49");
        comesTo(9999, "9999*9999*21+9999*4790+8416");
        comesTo(0, "9999*9999*21+9999*4790+8417");
    }

    private void truths() {
        sentence("Terms", "of or, and, not, <, = 1 or 0 (what is not 0 is true).");
        comesTo(1, "5 or 7");
        comesTo(1, "-5 or 0");
        comesTo(1, "2 and 4");
        comesTo(1, "-1 and -2");
        comesTo(0, "not -1");
        comesTo(0, "not 2");
        comesTo(1, "0 - 1 < 0");
        comesTo(0, "3 < 3");
        comesTo(1, "3 < 4");
        comesTo(0, "4 < 3");
        comesTo(1, "3 = 3");
        comesTo(0, "3 = 4");
        comesTo(1, "8192*8192*32 or 0");
        comesTo(0, "8192*8192*64 or 0");
        comesTo(1, "not (8192*8192*64)");
        comesTo(6, "(2 < 3) + (3 = 3) * 5");
    }

    private void firstFault() {
        sentence("Terms", "FAULT: the place of the first byte of the first TOKEN that can't stand there");
        faultAt(0, "1");
        faultAt(3, "   wet");
        faultAt(10, "risk fall rocks;");
        faultAt(7, "risk 1 ) ( # 12345");
        faultAt(7, "risk 1;worth foo;");
        faultAt(13, "risk 1;wet (1;worth 1;");
        faultAt(159, "risk 1;wet 2;worth 3;" + " ".repeat(138) + ";");
    }

    /** Each beginning of the first rule: it ends too early, or in a word that is none. */
    private void endsTooEarly() {
        sentence("Terms", "(the text's size, if it ends too early),");
        faultAt(0, "");
        faultAt(1, " ");
        faultAt(8, "risk 1  ");
        faultAt(160, "risk 1" + " ".repeat(154));
        for (int size = 0; size < FIRST.length(); size++) {
            int word = size;
            while (word > 0 && letter(word - 1) && letter(size)) {
                word--;
            }
            faultAt(word, FIRST.substring(0, size));
        }
        stands(FIRST);
    }

    private static boolean letter(int at) {
        return FIRST.charAt(at) >= 'a' && FIRST.charAt(at) <= 'z';
    }

    private void faultyTokens() {
        sentence("Terms", "also of a byte that begins none,");
        for (int b : new int[] {0, 33, 39, 44, 47, 58, 62, 63, 65, 90, 95, 96, 123, 127, 128, 255}) {
            faultAt(5, "risk " + (char) b + "1;");
            faultAt(7, "risk 1 " + (char) b + ";");
            faultAt(7, "risk 1;" + (char) b);
        }
        sentence("Terms", "a WORD that is neither KEY nor NAME,");
        faultAt(5, "risk a;");
        faultAt(5, "risk z;");
        faultAt(5, "risk falls;");
        faultAt(5, "risk fal;");
        faultAt(7, "risk 1 orr 2;");
        faultAt(0, "risks 1;");
        faultAt(5, "risk " + "a".repeat(155));
        sentence("Terms", "a NUMBER that is too long,");
        faultAt(10, "risk 1234 12345;");
        faultAt(5, "risk 12345;");
        faultAt(5, "risk " + "0".repeat(155));
        faultAt(9, "risk 1234");
    }

    /** All rows of so many openings that the grammar lets stand: behind a - there is no not. */
    private static List<String> rows(int size) {
        List<String> rows = new ArrayList<>(List.of(""));
        for (int i = 0; i < size; i++) {
            List<String> longer = new ArrayList<>();
            for (String row : rows) {
                longer.add(row + "(");
                longer.add(row + "-");
                if (!row.endsWith("-")) {
                    longer.add(row + "n");
                }
            }
            rows = longer;
        }
        return rows;
    }

    private static String opened(String row) {
        return row.replace("n", "not ");
    }

    private static String closed(String row) {
        return ")".repeat((int) row.chars().filter(c -> c == '(').count());
    }

    private void fiveOpen() {
        sentence("Terms", "a ( , a not, a - ahead of a ONE while 5 of these are open");
        for (String row : rows(5)) {
            stands("risk " + opened(row) + "1" + closed(row) + ";wet 0;worth 0;");
        }
        for (String row : rows(6)) {
            int last = 5 + opened(row.substring(0, 5)).length();
            faultAt(last, "risk " + opened(row) + "1" + closed(row) + ";wet 0;worth 0;");
        }
        stands("risk (((((1-1+1-1)))));wet 0;worth 0;");
        faultAt(12, "risk (((((1--1)))));");
        faultAt(12, "risk (((((1*-1)))));");
        faultAt(16, "risk (((((1 and not 1)))));");
    }

    private void tillTheyEnd() {
        sentence("Terms", "(a ( till its ) , not and - till what they belong to ends).");
        stands("risk (((((1)))))+(((((1)))));wet (((((1)))));worth (((((1)))));");
        stands("risk -----1+-----1*-----1;wet -----1;worth -----1;");
        stands("risk not not not not not 1 and not not not not not 1;wet 0;worth 0;");
        stands("risk not not not not not 1 or not not not not not 1;wet 0;worth 0;");
        stands("risk ((((-1-(1)*-1))));wet 0;worth 0;");
        stands("risk not 1 and(((((1)))));wet 0;worth 0;");
        stands("risk -1*(((((1)))));wet 0;worth 0;");
        stands("risk -(1)+(((((1)))));wet 0;worth 0;");
        stands("risk not 1<((((1))));wet 0;worth 0;");
        stands("risk not 1+((((1))));wet 0;worth 0;");
        faultAt(15, "risk not 1<(((((1)))));");
        faultAt(15, "risk not 1+(((((1)))));");
        faultAt(15, "risk not 1*-----1;");
        faultAt(15, "risk (1 and(((((1))))));");
        faultAt(12, "risk (1*-----1);");
        faultAt(12, "risk -(1+----1);");
    }

    private void sixTexts() {
        sentence("Terms", "There are 6 TEXTS at most, TEXT 0 with them.");
        answers(1, "count", 2);
        for (int text = 1; text <= 5; text++) {
            feeds("risk 1;wet 2;worth " + text + ";");
            answers(text, "text");
            answers(text + 1, "count", 2);
        }
        feeds("risk 1;wet 2;worth 6;");
        refuses(FULL, "text");
        answers(6, "count", 2);
        refuses(BAD, "force", 6);
        for (int text = 1; text <= 5; text++) {
            does("force", text);
            answers(text, "worth");
        }
        answers(5, "force", 0);
        answers(400, "worth");
    }

    private void names() {
        sentence("Terms", "Of a PLACE: fall, rocks; water: WATER; deep: DEEP; looked: 1 or 0; load: LOAD.");
        does("place", 370);
        does("place", 991);
        does("doing", RUN, 0);
        does("set", LOOKED, 1, 1);
        int[] numbers = {0, 9};
        rule("risk fall*10+rocks;wet looked*7+1;worth 0;");
        answers(37, "told", 0, 0, 2);
        answers(99, "told", 0, 1, 2);
        answers(1, "told", 0, 0, 3);
        answers(8, "told", 0, 1, 3);
        rule("risk water*10+deep;wet load;worth 0;");
        for (int water : numbers) {
            for (int deep : numbers) {
                does("set", WATER, 0, water);
                does("set", DEEP, 0, deep);
                answers(10 * water + deep, "told", 0, 0, 2);
                answers(10 * water + deep, "told", 0, 1, 2);
            }
        }
        for (int load : new int[] {0, 1, 98, 99}) {
            does("set", LOAD, 0, load);
            answers(load, "told", 0, 0, 3);
        }
    }

    private void worth() {
        sentence("Terms", "worth: what a boat that has come down is worth (0 .. 9999, else the bound; fall, rocks, looked 0).");
        comesTo(0, "0");
        comesTo(1, "1");
        comesTo(0, "-1");
        comesTo(9998, "9998");
        comesTo(9999, "9999");
        comesTo(9999, "9999 + 1");
        comesTo(9999, "9999 * 9999");
        comesTo(0, "-9999 * 9999");
        fresh();
        does("place", 991);
        does("set", LOOKED, 0, 1);
        rule("risk 0;wet 0;worth fall*1000+rocks*100+looked*10+water;");
        answers(4, "worth");
        answers(16, "value", 1, 400);
    }

    private void firstRule() {
        sentence("Terms", "TEXT 0, at first THE RULE, is: " + FIRST);
        answers(0, "count", 4);
        does("place", 0);
        does("doing", RUN, 0);
        int[][] due = {{0, 0, 0, 3, 0, 3}, {9, 9, 0, 9, 45, 18}, {9, 9, 1, 9, 36, 17}, {2, 1, 1, 0, 0, 1}, {2, 2, 1, 0, 1, 1},
            {0, 0, 1, 0, 0, 0}, {0, 9, 1, 1, 0, 0}, {1, 0, 0, 0, 4, 1}};
        for (int[] d : due) {
            does("set", FALL, 0, d[0]);
            does("set", ROCKS, 0, d[1]);
            does("set", LOOKED, 0, d[2]);
            does("set", DEEP, 0, d[3]);
            answers(d[4], "told", 0, 0, 2);
            answers(d[5], "told", 0, 0, 3);
        }
        for (int load : new int[] {0, 1, 40, 99}) {
            does("set", LOAD, 0, load);
            answers(10 * load, "worth");
        }
        rule("risk 0;wet 0;worth 3;");
        answers(1, "force", 0);
        answers(990, "worth");
    }
}
