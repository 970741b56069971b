/** The sentences of the promises 1 to 9. */
final class PromisesOfRiver extends Bench {
    private static final String TEXT = "risk 1;wet 2;worth 3;";

    PromisesOfRiver(Checks checks, Document document) {
        super(checks, document);
    }

    @Override
    void all() {
        aNewObject();
        place();
        placeRefused();
        set();
        setRefused();
        doing();
        told();
        toldRefused();
        feed();
        feedRefused();
        text();
        textFault();
        textRefused();
        force();
        worth();
    }

    private void aNewObject() {
        sentence("Promise 1", "No PLACES, no DOINGS.");
        answers(0, "count", 0);
        answers(0, "count", 1);
        refuses(BAD, "set", FALL, 0, 0);
        refuses(BAD, "told", 0, 0, 0);
        refuses(NOTHING, "taken", 0, RUN);
        answers(0, "place", 0);
        answers(0, "doing", RUN, 0);
    }

    private void place() {
        sentence("Promise 2", "A PLACE (what: 100 FALL, 10 ROCKS, and BANK): its number.");
        int[] whats = {0, 1, 10, 90, 91, 100, 101, 900, 990, 991, 461, 640};
        for (int i = 0; i < whats.length; i++) {
            answers(i, "place", whats[i]);
        }
        for (int i = 0; i < whats.length; i++) {
            answers(whats[i] / 100, "set", FALL, i, 0);
            answers(whats[i] / 10 % 10, "set", ROCKS, i, 0);
            answers(whats[i] % 10, "set", BANK, i, 0);
            answers(0, "set", LOOKED, i, 0);
        }
    }

    private void placeRefused() {
        sentence("Promise 2", "BAD; FULL.");
        long[] wrong = {-1, -10, -99, 2, 9, 12, 19, 102, 109, 989, 992, 999, 1000, 1001, 1010, 1100, FAR, DEEPEST};
        refusesEach(BAD, 0, wrong, "place", 0);
        places(11, 321);
        refusesEach(BAD, 0, wrong, "place", 0);
        answers(11, "place", 991);
        refusesEach(BAD, 0, wrong, "place", 0);
        refuses(FULL, "place", 0);
        refuses(FULL, "place", 991);
    }

    private void set() {
        sentence("Promise 3", "FALL (what 0), ROCKS (1), BANK (2), LOOKED (3) of a PLACE, WATER (4), DEEP (5), BOATS (6), LOAD (7),"
                + " SNOW (8; of does not matter) become v: what it was.");
        does("place", 341);
        does("place", 560);
        int[][] first = {{3, 4, 1, 0}, {5, 6, 0, 0}};
        for (int place = 0; place <= 1; place++) {
            for (int what = FALL; what <= LOOKED; what++) {
                answers(first[place][what], "set", what, place, 1 - place);
            }
        }
        for (int place = 0; place <= 1; place++) {
            for (int what = FALL; what <= LOOKED; what++) {
                answers(1 - place, "set", what, place, 0);
            }
        }
        int[] ofAll = {4, 3, 4, 40, 24};
        long[] any = {-1, 2, 12, FAR, DEEPEST};
        for (int what = WATER; what <= SNOW; what++) {
            long was = ofAll[what - WATER];
            for (int i = 0; i < any.length; i++) {
                answers(was, "set", what, any[i], i + 1);
                answers(i + 1, "count", what + 1);
                was = i + 1;
            }
        }
    }

    private void setRefused() {
        sentence("Promise 3", "BAD.");
        refusesEach(BAD, 1, new long[] {-1, 0, 1, FAR, DEEPEST}, "set", FALL, 0, 0);
        does("place", 341);
        does("place", 561);
        refusesEach(BAD, 0, outside(FALL, SNOW), "set", 0, 0, 0);
        for (int what = FALL; what <= LOOKED; what++) {
            refusesEach(BAD, 1, new long[] {-1, 2, 11, 12, FAR, DEEPEST}, "set", what, 0, 0);
        }
        int[] most = {9, 9, 1, 1, 9, 9, 6, 99, 60};
        for (int what = FALL; what <= SNOW; what++) {
            refusesEach(BAD, 2, outside(0, most[what]), "set", what, 1, 0);
        }
        places(10, 0);
        refuses(BAD, "set", FALL, 12, 0);
        answers(0, "set", FALL, 11, 9);
    }

    private void doing() {
        sentence("Promise 4", "A DOING: its number.");
        int[][] doings = {{RUN, 0}, {TRACK, 9}, {EASED, 9}, {HALF, 1}, {CARRY, 8}, {ROPE, 5}, {RUN, 9}, {RUN, 9}};
        for (int i = 0; i < doings.length; i++) {
            answers(i, "doing", doings[i][0], doings[i][1]);
            answers(i + 1, "count", 1);
        }
        for (int i = 0; i < doings.length; i++) {
            answers(doings[i][1], "taken", i, doings[i][0]);
        }
        sentence("Promise 4", "BAD; FULL.");
        for (int had = 0; had <= 8; had++) {
            refusesEach(BAD, 0, outside(RUN, TRACK), "doing", 0, 0);
            refusesEach(BAD, 1, outside(0, 9), "doing", 0, 0);
            refuses(BAD, "doing", 6, 10);
            if (had < 8) {
                answers(had, "doing", had % 6, 9);
            }
        }
        refuses(FULL, "doing", RUN, 0);
        refuses(FULL, "doing", TRACK, 9);
    }

    private void told() {
        sentence("Promise 5", "Of a DOING at a PLACE: 0 KIND, 1 TAKES, 2 RISK, 3 WETS, 4 whether it MAY (1, 0), 5 NUMBER.");
        does("place", 871);
        does("place", 980);
        doingOfEachKind(7);
        int[][] first = {{0, 0, 39, 11, 1, 7}, {1, 1, 9, 3, 1, 7}, {2, 4, 0, 7, 1, 7}, {3, 2, 19, 11, 1, 7}, {4, 3, 2, 3, 1, 7}, {5, 2, 2, 14, 1, 7}};
        int[][] second = {{0, 0, 44, 12, 1, 7}, {1, 1, 11, 4, 0, 7}, {2, 4, 0, 7, 0, 7}, {3, 2, 22, 12, 1, 7}, {4, 3, 4, 4, 0, 7}, {5, 2, 2, 14, 0, 7}};
        for (int doing = RUN; doing <= TRACK; doing++) {
            for (int what = 0; what <= 5; what++) {
                answers(first[doing][what], "told", doing, 0, what);
                answers(second[doing][what], "told", doing, 1, what);
            }
        }
    }

    private void toldRefused() {
        sentence("Promise 5", "BAD.");
        refuses(BAD, "told", 0, 0, 0);
        does("place", 0);
        refuses(BAD, "told", 0, 0, 0);
        does("doing", RUN, 0);
        answers(0, "told", 0, 0, 0);
        refusesEach(BAD, 0, outside(0, 0), "told", 0, 0, 0);
        refusesEach(BAD, 1, outside(0, 0), "told", 0, 0, 0);
        refusesEach(BAD, 2, outside(0, 5), "told", 0, 0, 0);
        places(11, 0);
        for (int i = 0; i < 7; i++) {
            does("doing", ROPE, i);
        }
        answers(6, "told", 7, 11, 5);
        refusesEach(BAD, 0, outside(0, 7), "told", 0, 11, 5);
        refusesEach(BAD, 1, outside(0, 11), "told", 7, 0, 5);
        refusesEach(BAD, 2, outside(0, 5), "told", 7, 11, 0);
        fresh();
        does("doing", RUN, 0);
        refuses(BAD, "told", 0, 0, 0);
    }

    /** The bytes that are not among the lowest n do not matter; a byte above 127 is one byte. */
    private void feed() {
        sentence("Promise 6", "The n lowest bytes of a number, the lowest first, come behind THE TAPE: how many it has.");
        for (int n = 1; n <= 8; n++) {
            fresh();
            answers(n, "feed", n, -1);
            answers(2 * n, "feed", n, 0);
            answers(2 * n, "count", 3);
            answers(-100, "text");
            answers(0, "count", 3);
        }
        fresh();
        long risk = 'r' | 'i' << 8 | 's' << 16 | (long) 'k' << 24;
        answers(4, "feed", 4, risk | 0x2323232300000000L);
        answers(5, "feed", 1, 0x2323232323232320L);
        answers(8, "feed", 3, 0x23232323233B3231L);
        answers(16, "feed", 8, 0x773B343320746577L);
        answers(24, "feed", 8, 0x3B363520_6874726FL);
        answers(1, "text");
        answers(0, "force", 1);
        answers(56, "worth");
    }

    private void feedRefused() {
        sentence("Promise 6", "BAD: n is not 1 .. 8.");
        refusesEach(BAD, 0, outside(1, 8), "feed", 1, 0x2020202020202020L);
        feeds(TEXT);
        refusesEach(BAD, 0, outside(1, 8), "feed", 1, 0x2323232323232323L);
        answers(1, "text");
        sentence("Promise 6", "FULL.");
        feeds("risk 1;wet 2;worth 3;" + " ".repeat(139));
        refusesEach(FULL, 0, new long[] {1, 2, 8}, "feed", 1, ' ');
        refusesEach(BAD, 0, outside(1, 8), "feed", 1, ' ');
        for (int n = 1; n <= 8; n++) {
            fresh();
            feeds("risk 1;wet 2;worth 3;" + " ".repeat(139 - n));
            if (n < 8) {
                refuses(FULL, "feed", n + 1, 0x2020202020202020L);
            }
            answers(160, "feed", n, 0x2020202020202020L);
            refuses(FULL, "feed", 1, 0x20);
            refuses(BAD, "feed", 0, 0x20);
            refuses(BAD, "feed", 9, 0x20);
        }
        answers(1, "text");
    }

    private void text() {
        sentence("Promise 7", "THE TAPE, which is empty then, is a TEXT: its number;");
        for (int text = 1; text <= 5; text++) {
            feeds(TEXT);
            answers(text, "text");
            answers(0, "count", 3);
            answers(text + 1, "count", 2);
            answers(0, "count", 4);
            answers(400, "worth");
        }
    }

    private void textFault() {
        sentence("Promise 7", "-100 less the place of its FAULT.");
        answers(-100, "text");
        feeds("#");
        answers(-100, "text");
        answers(0, "count", 3);
        feeds(" #");
        answers(-101, "text");
        answers(0, "count", 3);
        answers(1, "count", 2);
        feeds(" ".repeat(160));
        answers(-260, "text");
        answers(0, "count", 3);
        feeds(" ".repeat(159) + "#");
        answers(-259, "text");
        feeds(TEXT);
        answers(1, "text");
        feeds("risk");
        answers(-104, "text");
        answers(2, "count", 2);
    }

    private void textRefused() {
        sentence("Promise 7", "FULL: no TEXT more has room (THE TAPE stays).");
        for (int text = 1; text <= 4; text++) {
            feeds(TEXT);
            does("text");
        }
        feeds("#");
        answers(-100, "text");
        feeds(TEXT);
        answers(5, "text");
        refuses(FULL, "text");
        feeds(TEXT);
        refuses(FULL, "text");
        answers(21, "count", 3);
        answers(22, "feed", 1, '#');
        refuses(FULL, "text");
        answers(22, "count", 3);
        answers(6, "count", 2);
    }

    private void force() {
        sentence("Promise 8", "A TEXT is THE RULE: which was.");
        for (int text = 1; text <= 5; text++) {
            feeds("risk 1;wet 2;worth " + text + ";");
            does("text");
        }
        answers(0, "force", 0);
        answers(0, "force", 5);
        answers(5, "worth");
        answers(5, "force", 1);
        answers(1, "worth");
        answers(1, "force", 1);
        answers(1, "count", 4);
        answers(1, "force", 0);
        answers(400, "worth");
        sentence("Promise 8", "BAD.");
        refusesEach(BAD, 0, outside(0, 0), "force", 0);
        for (int text = 1; text <= 5; text++) {
            feeds("risk 1;wet 2;worth " + text + ";");
            does("text");
            does("force", text);
            refusesEach(BAD, 0, outside(0, text), "force", 0);
        }
    }

    private void worth() {
        sentence("Promise 9", "What worth comes to.");
        answers(400, "worth");
        does("set", LOAD, 0, 0);
        answers(0, "worth");
        does("set", LOAD, 0, 99);
        answers(990, "worth");
        rule("risk 1;wet 1;worth load*101;");
        answers(9999, "worth");
        rule("risk 1;wet 1;worth load*101+1;");
        answers(9999, "worth");
        does("set", LOAD, 0, 98);
        answers(9899, "worth");
        rule("risk 1;wet 1;worth 97-load;");
        answers(0, "worth");
        does("set", LOAD, 0, 97);
        answers(0, "worth");
        does("set", LOAD, 0, 96);
        answers(1, "worth");
    }
}
