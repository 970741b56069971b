/** The sentences of 'Terms' about the river, doings and refusals. */
final class TermsOfRiver extends Bench {
    TermsOfRiver(Checks checks, Document document) {
        super(checks, document);
    }

    @Override
    void all() {
        calls();
        places();
        numbersOfPlaces();
        numbersOfAll();
        doings();
        fixedAnswers();
        quotients();
        refusals();
        takes();
        risks();
        risksInTheEnd();
        wets();
        wetsInTheEnd();
        mays();
    }

    private void calls() {
        sentence("What it is", "An object is used for at most 512 calls after it has been made");
        does("place", 1);
        does("doing", CARRY, 0);
        for (int call = 3; call <= 512; call++) {
            answers(1600, "value", 0, 424);
        }
    }

    private void places() {
        sentence("What it is", "PLACES (12 at most, numbered from 0, from above)");
        for (int place = 0; place < 12; place++) {
            answers(place, "place", 10 * place);
        }
        refuses(FULL, "place", 0);
        answers(12, "count", 0);
        fresh();
        places(2, 1);
        does("doing", RUN, 0);
        does("doing", CARRY, 0);
        does("set", SNOW, 0, 3);
        way(0, 1, 0);
        answers(0, "takes", 0, 1);
        way(0, 0, 1);
        answers(1, "takes", 0, 1);
    }

    /** Each number inside is taken and is what it was then; those outside are refused. */
    private void bounds(int what, int first, int most) {
        places(2, 0);
        long was = first;
        for (int v = 0; v <= most; v++) {
            answers(was, "set", what, 0, v);
            was = v;
        }
        refusesEach(BAD, 2, outside(0, most), "set", what, 0, 0);
        answers(most, "set", what, 0, 0);
        refusesEach(BAD, 2, outside(0, most), "set", what, 0, 0);
        answers(0, "set", what, 0, first);
    }

    private void numbersOfPlaces() {
        sentence("Terms", "FALL (0 .. 9),");
        bounds(FALL, 0, 9);
        answers(0, "set", FALL, 1, 9);
        answers(2, "place", 900);
        answers(9, "set", FALL, 2, 0);
        refuses(BAD, "place", 1000);
        refuses(BAD, "place", -100);
        sentence("Terms", "ROCKS (0 .. 9),");
        bounds(ROCKS, 0, 9);
        answers(0, "set", ROCKS, 1, 9);
        answers(2, "place", 90);
        answers(9, "set", ROCKS, 2, 0);
        answers(0, "set", FALL, 2, 0);
        sentence("Terms", "a BANK (1: one can carry there) or not (0),");
        bounds(BANK, 0, 1);
        does("doing", CARRY, 0);
        answers(0, "told", 0, 0, 4);
        answers(0, "set", BANK, 0, 1);
        answers(1, "told", 0, 0, 4);
        answers(0, "told", 0, 1, 4);
        for (int lastDigit = 2; lastDigit <= 9; lastDigit++) {
            refuses(BAD, "place", lastDigit);
            refuses(BAD, "place", 990 + lastDigit);
        }
        sentence("Terms", "LOOKED at (1) or not (0, at first).");
        bounds(LOOKED, 0, 1);
        answers(0, "set", LOOKED, 0, 1);
        answers(0, "set", LOOKED, 1, 1);
        answers(2, "place", 991);
        answers(0, "set", LOOKED, 2, 0);
    }

    private void numbersOfAll() {
        sentence("Terms", "WATER (0 .. 9; 4 at first),");
        answers(4, "count", 5);
        bounds(WATER, 4, 9);
        sentence("Terms", "DEEP (0 .. 9; 3 at first),");
        answers(3, "count", 6);
        bounds(DEEP, 3, 9);
        sentence("Terms", "BOATS (0 .. 6; 4 at first),");
        answers(4, "count", 7);
        bounds(BOATS, 4, 6);
        sentence("Terms", "LOAD of each (0 .. 99; 40 at first),");
        answers(40, "count", 8);
        bounds(LOAD, 40, 99);
        sentence("Terms", "SNOW (0 .. 60 half days; 24 at first: so many there are).");
        answers(24, "count", 9);
        bounds(SNOW, 24, 60);
    }

    private void doings() {
        sentence("Terms", "DOINGS (8 at most, numbered from 0) have a KIND:");
        does("place", 0);
        for (int doing = 0; doing < 8; doing++) {
            answers(doing, "doing", doing % 6, doing);
            answers(doing % 6, "told", doing, 0, 0);
        }
        refuses(FULL, "doing", 0, 0);
        answers(8, "count", 1);
        sentence("Terms", "0 RUN, 1 ROPE under RUN, 2 CARRY under RUN, 3 HALF under RUN, 4 EASED under ROPE, 5 TRACK under CARRY;");
        refusesEach(BAD, 0, outside(0, 5), "doing", 0, 0);
        doingOfEachKind(7);
        refusesEach(BAD, 0, outside(0, 5), "doing", 0, 0);
        long[][] above = {{RUN}, {ROPE, RUN}, {CARRY, RUN}, {HALF, RUN}, {EASED, ROPE, RUN}, {TRACK, CARRY, RUN}};
        for (int kind = RUN; kind <= TRACK; kind++) {
            for (int k = RUN; k <= TRACK; k++) {
                boolean under = false;
                for (long one : above[kind]) {
                    under |= one == k;
                }
                answers(under ? 7 : OTHER_SORT, "taken", kind, k);
            }
        }
        sentence("Terms", "a NUMBER (0 .. 9).");
        does("place", 0);
        refusesEach(BAD, 1, outside(0, 9), "doing", HALF, 0);
        for (int number = 0; number <= 9; number++) {
            answers(number % 8, "doing", number % 6, number);
            answers(number, "told", number % 8, 0, 5);
            if (number == 7) {
                fresh();
                does("place", 0);
            }
        }
    }

    private void fixedAnswers() {
        sentence("Terms", "NONE is -1;");
        checks.due("NONE", RiverDown.NONE, -1);
        answers(-1, "worst");
        sentence("Terms", "NO, where a long is answered, -4611686018427387904.");
        checks.due("NO", RiverDown.NO, Long.MIN_VALUE / 2);
        refuses(-4611686018427387904L, "look", 0);
    }

    /** Two places, 1 boat, at the second 0.67 of it come: wets of 1 there cost 6.7, a worth of 10 is 4.489. */
    private void quotients() {
        sentence("Terms", "Quotients are cut toward 0.");
        does("place", 0);
        does("place", 100);
        does("doing", RUN, 0);
        does("set", BOATS, 0, 1);
        way(0, 0, 0);
        rule("risk 33;wet fall;worth 0;");
        answers(-6, "mean", 0);
        rule("risk 33;wet 0;worth 10;");
        answers(4, "mean", 0);
    }

    private void refusals() {
        sentence("Terms", "Refusals, the first that the call's words name; they change nothing:");
        places(12, 0);
        refuses(BAD, "place", 2);
        refuses(NOTHING, "cell", 0, 99, 0);
        refuses(BAD, "takes", 0, 2);
        sentence("Terms", "BAD (-2: a number is none such or not as told),");
        checks.due("BAD", RiverDown.BAD, -2);
        refuses(-2, "force", 1);
        refuses(-2, "place", 5);
        sentence("Terms", "STATE (-3),");
        checks.due("STATE", RiverDown.STATE, -3);
        refuses(-3, "back");
        sentence("Terms", "FULL (-4);");
        checks.due("FULL", RiverDown.FULL, -4);
        places(12, 0);
        refuses(-4, "place", 0);
        sentence("Terms", "the host's: -11 nothing where something is asked,");
        refuses(-11, "cell", 0, 0, 0);
        refuses(-11, "taken", 0, 0);
        sentence("Terms", "-12 a place outside,");
        does("sheet", 0, BYTES, 3);
        refuses(-12, "cell", 0, 3, 0);
        sentence("Terms", "-13 a thing of another sort or KIND,");
        does("sheet", 0, BYTES, 3);
        does("doing", RUN, 0);
        refuses(-13, "places", 0, SHORTS, 0, 0);
        refuses(-13, "taken", 0, ROPE);
        sentence("Terms", "-14 a size below 0.");
        refuses(-14, "sheet", 0, BYTES, -1);
    }

    private void takes() {
        String[] words = {"Of a DOING at a PLACE: TAKES (half days): RUN: 0;", "ROPE: 1 more than a RUN;", "CARRY: 4 more than a RUN;",
            "HALF: 1 more than a RUN, NUMBER by 4 (cut) more;", "EASED: NUMBER by 3 (cut) more than a ROPE;", "TRACK: half (cut) of a CARRY's."};
        int[][] due = {{0, 0, 0, 0, 0, 0, 0, 0, 0, 0}, {1, 1, 1, 1, 1, 1, 1, 1, 1, 1}, {4, 4, 4, 4, 4, 4, 4, 4, 4, 4},
            {1, 1, 1, 1, 2, 2, 2, 2, 3, 3}, {1, 1, 1, 2, 2, 2, 3, 3, 3, 4}, {2, 2, 2, 2, 2, 2, 2, 2, 2, 2}};
        for (int kind = RUN; kind <= TRACK; kind++) {
            sentence("Terms", words[kind]);
            for (int number = 0; number <= 9; number++) {
                fresh();
                does("place", 980);
                does("doing", kind, number);
                answers(due[kind][number], "told", 0, 0, 1);
            }
        }
    }

    /** What the rule says of the risk, and what is due of that kind. */
    private void risk(int kind, int number, String says, int due) {
        fresh();
        does("place", 0);
        does("doing", kind, number);
        rule("risk " + says + ";wet 0;worth 0;");
        checks.due("risk of kind " + kind + ", " + number + ", where the rule says " + says, does("told", 0, 0, 2), due);
    }

    private void risks() {
        sentence("Terms", "RUN: what risk says;");
        risk(RUN, 0, "0", 0);
        risk(RUN, 9, "1", 1);
        risk(RUN, 0, "57", 57);
        sentence("Terms", "ROPE: a quarter (cut) of a RUN's;");
        risk(ROPE, 0, "3", 0);
        risk(ROPE, 9, "4", 1);
        risk(ROPE, 0, "7", 1);
        risk(ROPE, 0, "8", 2);
        sentence("Terms", "CARRY: none of a RUN's (0);");
        risk(CARRY, 0, "0", 0);
        risk(CARRY, 9, "100", 0);
        risk(CARRY, 9, "9999", 0);
        risk(CARRY, 0, "-1", 0);
        sentence("Terms", "HALF: half (cut) of a RUN's;");
        risk(HALF, 0, "1", 0);
        risk(HALF, 9, "2", 1);
        risk(HALF, 0, "3", 1);
        risk(HALF, 0, "4", 2);
        sentence("Terms", "EASED: a ROPE's less NUMBER;");
        risk(EASED, 0, "43", 10);
        risk(EASED, 3, "43", 7);
        risk(EASED, 9, "43", 1);
        risk(EASED, 9, "40", 1);
        risk(EASED, 9, "39", 0);
        sentence("Terms", "TRACK: 2 more than a CARRY's.");
        risk(TRACK, 0, "0", 2);
        risk(TRACK, 9, "100", 2);
        risk(TRACK, 0, "-100", 2);
    }

    /** Only the end is bounded: a rope's quarter is of what the rule says. */
    private void risksInTheEnd() {
        sentence("Terms", "RISK (how many of 100 such boats are lost; in the end 0 .. 100, else the bound):");
        String[] run = {"-1", "0", "99", "100", "101", "9999*9999", "-(9999*9999)", "8192*8192*32", "8192*8192*32-1"};
        int[] ofRun = {0, 0, 99, 100, 100, 100, 0, 0, 100};
        for (int i = 0; i < run.length; i++) {
            risk(RUN, 0, run[i], ofRun[i]);
        }
        int[][] others = {
            {ROPE, 0, -4, 0}, {ROPE, 0, 150, 37}, {ROPE, 0, 399, 99}, {ROPE, 0, 400, 100}, {ROPE, 0, 403, 100}, {ROPE, 0, 404, 100},
            {HALF, 0, -2, 0}, {HALF, 0, 150, 75}, {HALF, 0, 199, 99}, {HALF, 0, 200, 100}, {HALF, 0, 202, 100},
            {EASED, 9, 32, 0}, {EASED, 9, 36, 0}, {EASED, 9, 40, 1}, {EASED, 9, 150, 28}, {EASED, 9, 435, 99}, {EASED, 9, 436, 100},
            {EASED, 9, 440, 100}, {EASED, 1, 404, 100}, {EASED, 0, -40, 0}, {EASED, 9, -40, 0}};
        for (int[] o : others) {
            risk(o[0], o[1], "" + o[2], o[3]);
        }
        risk(ROPE, 0, "8192*8192*32", 0);
        risk(EASED, 9, "8192*8192*32", 0);
        risk(EASED, 9, "8192*8192*32-1", 100);
    }

    private void wet(int kind, int number, int load, String says, int due) {
        fresh();
        does("place", 0);
        does("doing", kind, number);
        does("set", LOAD, 0, load);
        rule("risk 0;wet " + says + ";worth 0;");
        checks.due("wets of kind " + kind + ", " + number + ", load " + load + ", where the rule says " + says, does("told", 0, 0, 3), due);
    }

    private void wets() {
        sentence("Terms", "RUN: what wet says;");
        wet(RUN, 9, 40, "0", 0);
        wet(RUN, 0, 40, "17", 17);
        sentence("Terms", "ROPE: a third (cut) of a RUN's;");
        wet(ROPE, 9, 40, "2", 0);
        wet(ROPE, 0, 40, "3", 1);
        wet(ROPE, 0, 40, "5", 1);
        wet(ROPE, 0, 40, "6", 2);
        sentence("Terms", "CARRY: NUMBER; HALF as a RUN; EASED as a ROPE;");
        wet(CARRY, 0, 40, "17", 0);
        wet(CARRY, 9, 40, "0", 9);
        wet(CARRY, 4, 40, "-1", 4);
        wet(HALF, 9, 40, "17", 17);
        wet(HALF, 0, 40, "1", 1);
        wet(EASED, 9, 40, "5", 1);
        wet(EASED, 0, 40, "6", 2);
        sentence("Terms", "TRACK: twice a CARRY's.");
        wet(TRACK, 0, 40, "17", 0);
        wet(TRACK, 1, 40, "0", 2);
        wet(TRACK, 9, 40, "0", 18);
    }

    private void wetsInTheEnd() {
        sentence("Terms", "WETS (how much of each boat's LOAD is lost; in the end 0 .. LOAD, else the bound):");
        int[][] due = {
            {RUN, 0, 40, -1, 0}, {RUN, 0, 40, 0, 0}, {RUN, 0, 40, 39, 39}, {RUN, 0, 40, 40, 40}, {RUN, 0, 40, 41, 40},
            {RUN, 0, 99, 99, 99}, {RUN, 0, 99, 100, 99}, {RUN, 0, 0, 1, 0}, {RUN, 0, 1, 1, 1}, {RUN, 0, 1, 2, 1},
            {HALF, 0, 40, -1, 0}, {HALF, 0, 40, 40, 40}, {HALF, 0, 40, 41, 40}, {HALF, 9, 0, 1, 0},
            {ROPE, 0, 40, -3, 0}, {ROPE, 0, 40, 61, 20}, {ROPE, 0, 40, 119, 39}, {ROPE, 0, 40, 120, 40}, {ROPE, 0, 40, 123, 40},
            {EASED, 9, 40, -3, 0}, {EASED, 9, 40, 61, 20}, {EASED, 9, 40, 119, 39}, {EASED, 9, 40, 120, 40}, {EASED, 9, 40, 123, 40},
            {CARRY, 9, 9, 0, 9}, {CARRY, 9, 8, 0, 8}, {CARRY, 9, 0, 0, 0}, {CARRY, 0, 0, 0, 0},
            {TRACK, 9, 18, 0, 18}, {TRACK, 9, 17, 0, 17}, {TRACK, 9, 9, 0, 9}, {TRACK, 9, 8, 0, 8}, {TRACK, 9, 0, 0, 0}};
        for (int[] d : due) {
            wet(d[0], d[1], d[2], "" + d[3], d[4]);
        }
        wet(RUN, 0, 40, "8192*8192*32", 0);
        wet(ROPE, 0, 40, "8192*8192*32-1", 40);
    }

    private void mays() {
        sentence("Terms", "MAY: RUN: yes; ROPE: where ROCKS are below 8;");
        mayAt(new int[] {0, 7, 8, 9}, new int[] {0, 1}, new int[] {4}, RUN, ROPE);
        sentence("Terms", "CARRY: where there is a BANK; HALF as a RUN; EASED as a ROPE;");
        mayAt(new int[] {0, 7, 8, 9}, new int[] {0, 1}, new int[] {4, 9}, CARRY, HALF, EASED);
        sentence("Terms", "TRACK: as a CARRY, and WATER is below 7.");
        mayAt(new int[] {0, 9}, new int[] {0, 1}, new int[] {0, 6, 7, 9}, TRACK, CARRY);
    }

    private void mayAt(int[] rocks, int[] banks, int[] waters, int... kinds) {
        does("place", 0);
        doingOfEachKind(3);
        for (int rock : rocks) {
            for (int bank : banks) {
                for (int water : waters) {
                    does("set", ROCKS, 0, rock);
                    does("set", BANK, 0, bank);
                    does("set", WATER, 0, water);
                    boolean[] due = {true, rock < 8, bank == 1, true, rock < 8, bank == 1 && water < 7};
                    for (int kind : kinds) {
                        answers(due[kind] ? 1 : 0, "told", kind, 0, 4);
                    }
                }
            }
        }
    }
}
