/** The sentences of 'Counts', and promises 13 to 23, each at its boundary. */
public final class CountBoundaryTest {
    private static final int INVALID = Subject.INVALID;
    private static final int IMPOSSIBLE = Subject.IMPOSSIBLE;
    private static final int NONE = Subject.NONE;

    public static void main(String[] args) {
        clearLayer();
        faintLayer();
        thickLayer();
        missingYears();
        ageOfPlace();
        ashes();
        severalAshes();
        greatestAge();
        greatestAgeAndWays();
        settings();
        leastCost();
        bestOfSeveral();
        noCount();
        emptyCore();
        cost();
        years();
        offset();
        total();
        ways();
        rate();
        bound();
        boundAndAshes();
        without();
        widen();
        costWith();
        costWithSixAshes();
        Subject.finish();
    }

    private static void dueCost(String core, int want) {
        Subject.core(core).asked("cost", want);
    }

    // ---- 'Counts'

    private static void clearLayer() {
        Subject.sentence("Counts: a clear layer has 1 own year");
        dueCost("layer 5;ash 0 0", NONE);
        dueCost("layer 5;ash 1 0", 0);
        dueCost("layer 5;ash 2 0", NONE);
        Subject x = Subject.core("layer 5");
        x.dueYears(0, 1, 0);
        x.asked("bound 1 200 0", 1);
        x.asked("bound 1 200 1", 1);
    }

    private static void faintLayer() {
        Subject.sentence("Counts: a faint layer has 1 own year, or 0 at the cost F");
        dueCost("faint 5;ash 0 0", 4);
        dueCost("faint 5;ash 1 0", 0);
        dueCost("faint 5;ash 2 0", NONE);
        Subject x = Subject.core("faint 5");
        x.dueYears(0, 1, 0);
        x.asked("bound 1 3 0", 1);
        x.asked("bound 1 4 0", 0);
        x.asked("bound 1 200 1", 1);
        x.does("set 0 50");
        x.asked("bound 1 49 0", 1);
        x.asked("bound 1 50 0", 0);
        x.does("set 0 0");
        x.dueYears(0, 0, 0);
        x.asked("ways", 2);
    }

    private static void thickLayer() {
        Subject.sentence("Counts: a thick layer has 1 own year, or 2 at the cost T");
        dueCost("thick 5;ash 0 0", NONE);
        dueCost("thick 5;ash 1 0", 0);
        dueCost("thick 5;ash 2 0", 5);
        dueCost("thick 5;ash 3 0", NONE);
        Subject x = Subject.core("thick 5");
        x.dueYears(0, 1, 0);
        x.asked("bound 1 200 0", 1);
        x.asked("bound 1 4 1", 1);
        x.asked("bound 1 5 1", 2);
        x.does("set 1 50");
        x.asked("bound 1 49 1", 1);
        x.asked("bound 1 50 1", 2);
        x.does("set 1 0");
        x.dueYears(0, 1, 0);
        x.asked("ways", 2);
    }

    private static void missingYears() {
        Subject.sentence("Counts: each missing year costs G, a layer has at most its greatest number");
        dueCost("layer 5;ash 2 0", NONE);
        dueCost("layer 5;gap 1;ash 2 0", 3);
        dueCost("layer 5;gap 1;ash 3 0", NONE);
        dueCost("layer 5;gap 20;ash 20 0", 57);
        dueCost("layer 5;gap 20;ash 21 0", 60);
        dueCost("layer 5;gap 20;ash 22 0", NONE);
        dueCost("layer 5;gap 19;ash 21 0", NONE);
        dueCost("layer 5;gap 20;layer 5;gap 20;ash 42 0", 120);
        dueCost("layer 5;gap 20;layer 5;gap 20;ash 43 0", NONE);
        Subject x = Subject.core("layer 5;gap 20;ash 21 0");
        x.dueYears(0, 1, 20);
        x.does("set 2 50").asked("cost", 1000);
        x.does("set 2 0").asked("cost", 0);
        Subject.sentence("Counts: the greatest number is each layer's own");
        dueCost("layer 5;layer 5;gap 2;ash 4 0", 6);
        dueCost("layer 5;layer 5;gap 2;ash 5 0", NONE);
        dueCost("layer 5;gap 2;ash 2 0;layer 5;ash 3 0", 3);
        dueCost("layer 5;ash 2 0;layer 5;gap 2;ash 3 0", NONE);
    }

    private static void ageOfPlace() {
        Subject.sentence("Counts: the age of a place is the sum of the own and missing years above it");
        Subject x = Subject.core("thick 5;gap 3;faint 5;gap 2;ash 8 0;layer 1;gap 9");
        int[] ages = {0, 5, 8, 9};
        for (int place = 0; place < ages.length; place++) {
            x.asked("age " + place, ages[place]);
        }
        x.asked("cost", 5 + 5 * 3);
        Subject zero = Subject.core("faint 5;ash 0 0;faint 6;ash 0 0;layer 7");
        int[] young = {0, 0, 0, 1};
        for (int place = 0; place < young.length; place++) {
            zero.asked("age " + place, young[place]);
        }
    }

    private static void ashes() {
        Subject.sentence("Counts: an ash's age differs by at most its uncertainty, each year costs W");
        dueCost("layer 5;ash 10 8", NONE);
        dueCost("layer 5;ash 10 9", 18);
        dueCost("layer 5;ash 11 9", NONE);
        dueCost("layer 5;ash 1 0", 0);
        dueCost("layer 5;ash 2 0", NONE);
        dueCost("layer 5;ash 2 1", 2);
        dueCost("layer 5;ash 0 0", NONE);
        dueCost("layer 5;ash 0 1", 2);
        dueCost(Subject.times(9, "layer 5") + "ash 0 9", 18);
        dueCost(Subject.times(10, "layer 5") + "ash 0 9", NONE);
        dueCost(Subject.times(10, "layer 5") + "ash 1 9", 18);
        dueCost(Subject.times(10, "layer 5") + "ash 1 8", NONE);
        Subject x = Subject.core("layer 5;ash 10 9");
        x.does("set 3 50").asked("cost", 450);
        x.does("set 3 0").asked("cost", 0);
        x.does("removeAsh 0", "addAsh 1 11 9").asked("cost", NONE);
        Subject.sentence("Counts: years of the difference against missing years, W below, at and above G");
        Subject free = Subject.core("layer 5;gap 20;ash 21 9");
        free.asked("age 1", 12);
        free.asked("cost", 33 + 9 * 2);
        free.does("set 3 3").asked("age 1", 12);
        free.asked("cost", 60);
        free.asked("ways", 10);
        free.does("set 3 4").asked("age 1", 21);
        free.asked("cost", 60);
        free.asked("ways", 1);
        free.does("removeAsh 0").asked("age 1", 1);
    }

    private static void severalAshes() {
        Subject.sentence("Counts: this for each ash");
        dueCost("layer 1;gap 5;ash 3 0;layer 1;ash 9 5", 6 + 10);
        dueCost("layer 1;gap 5;ash 3 0;layer 1;ash 9 4", NONE);
        dueCost("layer 1;gap 5;ash 4 0;layer 1;ash 9 4", 9 + 8);
        dueCost("layer 1;ash 1 0;layer 1;ash 2 0;layer 1;ash 3 0;layer 1;ash 4 0;layer 1;ash 5 0;layer 1;ash 6 0", 0);
        dueCost("layer 1;ash 1 0;layer 1;ash 2 0;layer 1;ash 3 0;layer 1;ash 4 0;layer 1;ash 5 0;layer 1;ash 7 0", NONE);
        dueCost("layer 1;ash 2 0;layer 1;ash 2 0;layer 1;ash 3 0;layer 1;ash 4 0;layer 1;ash 5 0;layer 1;ash 6 0", NONE);
        dueCost("layer 1;ash 2 1;layer 1;ash 3 1;layer 1;ash 4 1;layer 1;ash 5 1;layer 1;ash 6 1;layer 1;ash 7 1", 12);
    }

    private static void greatestAge() {
        Subject.sentence("Counts: no age of a place may be greater than 600");
        String upper = Subject.times(28, "layer 1;gap 20");
        Subject in = Subject.core(upper + "layer 1;gap 11").does("set 2 0");
        in.asked("bound 29 0 1", 600);
        in.asked("bound 28 0 1", 588);
        in.asked("bound 29 0 0", 29);
        Subject less = Subject.core(upper + "layer 1;gap 10").does("set 2 0");
        less.asked("bound 29 0 1", 599);
        Subject over = Subject.core(upper + "layer 1;gap 12").does("set 2 0");
        over.asked("bound 29 0 1", 600);
        over.asked("bound 28 0 1", 588);
        Subject below = Subject.core(upper + "layer 1;gap 12;layer 1").does("set 2 0");
        below.asked("bound 30 0 1", 600);
        below.asked("bound 29 0 1", 599);
        below.asked("bound 28 0 1", 588);
        Subject deepest = Subject.core(50, "thick 1;gap 20").does("set 1 0", "set 2 0");
        int[][] bounds = {{50, 600}, {49, 599}, {40, 590}, {27, 577}, {26, 572}, {25, 550}, {1, 22}, {0, 0}};
        for (int[] bound : bounds) {
            deepest.asked("bound " + bound[0] + " 200 1", bound[1]);
            deepest.asked("bound " + bound[0] + " 200 0", bound[0]);
        }
        deepest.asked("cost", 0);
        deepest.asked("total 4", 50);
    }

    /** An ash at the age of 500, to which there is one way, and 100 more years below it. */
    private static void greatestAgeAndWays() {
        Subject.sentence("Counts: no age may be greater than 600, and those counts are not counted");
        String upper = Subject.times(23, "layer 1;gap 20") + "layer 1;gap 16;ash 500 0;";
        String lower = Subject.times(4, "layer 1;gap 20");
        int all = 21 * 21 * 21 * 21;
        int[][] due = {{15, all, 599}, {16, all, 600}, {17, all - 1, 600}, {18, all - 5, 600}, {22, all - 126, 600}};
        for (int[] row : due) {
            Subject x = Subject.core(upper + Subject.times(row[0], "layer 1") + lower).does("set 2 0");
            x.asked("ways", row[1]);
            x.asked("bound " + (28 + row[0]) + " 0 1", row[2]);
        }
        Subject.sentence("Counts: an age of 600 may stand above a faint layer of 0 years");
        Subject faint = Subject.core(upper + Subject.times(16, "layer 1") + lower + "faint 1").does("set 2 0", "set 0 0");
        faint.asked("ways", all + all - 1);
        faint.asked("bound 44 0 1", 600);
        faint.asked("bound 45 0 1", 600);
        faint.does("setLayer 44 1 0").asked("ways", all - 1);
        faint.asked("bound 44 0 1", 599);
        Subject.sentence("Counts: no age may be greater than 600, the best one near to it");
        Subject high = Subject.core(upper + Subject.times(26, "layer 1"));
        high.asked("age 24", 500);
        high.asked("age 50", 526);
        high.asked("cost", 476 * 3);
        high.asked("costWith 50 500 9", NONE);
        high.asked("costWith 32 500 9", 476 * 3 + 16);
        high.asked("costWith 33 500 9", 476 * 3 + 18);
        high.asked("costWith 34 500 9", NONE);
    }

    private static void settings() {
        Subject.sentence("Counts: F, T, G, W from 0 to 50, initially 4, 5, 3, 2");
        String core = "faint 1;ash 0 0;thick 1;ash 2 0;layer 1;gap 1;ash 4 0;layer 1;ash 6 1";
        Subject x = Subject.core(core);
        x.asked("cost", 4 + 5 + 3 + 2);
        int[] costs = {14 + 46, 14 + 45, 14 + 47, 14 + 48};
        int[] initial = {4, 5, 3, 2};
        for (int what = 0; what <= 3; what++) {
            x.due("set " + what + " 50", initial[what]);
            x.asked("cost", costs[what]);
            x.refused("set " + what + " 51", INVALID);
            x.due("set " + what + " 0", 50);
            x.asked("cost", 14 - initial[what]);
            x.refused("set " + what + " -1", INVALID);
            x.due("set " + what + " " + initial[what], 0);
        }
        x.does("set 0 50", "set 1 50", "set 2 50", "set 3 50").asked("cost", 200);
        x.does("set 0 0", "set 1 0", "set 2 0", "set 3 0").asked("cost", 0);
    }

    private static void leastCost() {
        Subject.sentence("Counts: the best count is the one with the least cost");
        Subject x = Subject.core("layer 1;gap 2;thick 1;ash 3 0");
        x.dueYears(0, 1, 1).dueYears(1, 1, 0).asked("cost", 3);
        x.does("set 1 3").dueYears(0, 1, 0).dueYears(1, 2, 0).asked("cost", 3);
        x.does("set 1 4").dueYears(0, 1, 1).dueYears(1, 1, 0).asked("cost", 3);
        x.does("set 1 2").dueYears(0, 1, 0).dueYears(1, 2, 0).asked("cost", 2);
        Subject ash = Subject.core("layer 1;gap 2;ash 2 1");
        ash.dueYears(0, 1, 0).asked("cost", 2);
        ash.does("set 3 3").dueYears(0, 1, 0).asked("ways", 2);
        ash.does("set 3 4").dueYears(0, 1, 1).asked("ways", 1);
        ash.asked("cost", 3);
    }

    private static void bestOfSeveral() {
        Subject.sentence("Counts: of several the one in which layer 0 has the fewest years");
        Subject x = Subject.core("layer 1;gap 1;layer 1;gap 1;ash 3 0");
        x.dueYears(0, 1, 0).dueYears(1, 1, 1).asked("ways", 2);
        Subject faint = Subject.core("faint 1;faint 1;ash 1 0");
        faint.dueYears(0, 0, 0).dueYears(1, 1, 0).asked("ways", 2);
        Subject thick = Subject.core("thick 1;thick 1;ash 3 0");
        thick.dueYears(0, 1, 0).dueYears(1, 2, 0).asked("ways", 2);
        Subject later = Subject.core("layer 1;gap 1;ash 1 1;layer 1;gap 3;ash 4 0").does("set 2 0", "set 3 0");
        later.dueYears(0, 1, 0).dueYears(1, 1, 2).asked("ways", 2);
        Subject.sentence("Counts: own and missing years together");
        Subject both = Subject.core("faint 1;gap 2;layer 1;gap 2;ash 4 0").does("set 0 0", "set 2 0");
        both.dueYears(0, 0, 1).dueYears(1, 1, 2).asked("ways", 5);
        Subject.sentence("Counts: of these the one in which layer 0 has the fewest own years");
        Subject own = Subject.core("thick 1;gap 2;ash 3 0").does("set 1 3");
        own.dueYears(0, 1, 2).asked("ways", 2);
        Subject none = Subject.core("faint 1;gap 1;ash 1 0").does("set 0 0", "set 2 0");
        none.dueYears(0, 0, 1).asked("ways", 2);
        Subject.sentence("Counts: then likewise for layer 1, and so on");
        Subject next = Subject.core("layer 1;gap 2;layer 1;gap 2;layer 1;gap 2;ash 6 0");
        next.dueYears(0, 1, 0).dueYears(1, 1, 1).dueYears(2, 1, 2).asked("ways", 7);
        Subject nextOwn = Subject.core("layer 1;thick 1;gap 2;layer 1;ash 5 0").does("set 1 3");
        nextOwn.dueYears(0, 1, 0).dueYears(1, 1, 2).dueYears(2, 1, 0).asked("ways", 2);
        Subject last = Subject.core("layer 1;faint 1;gap 1;ash 2 0").does("set 0 0", "set 2 0");
        last.dueYears(0, 1, 0).dueYears(1, 0, 1);
        Subject all = Subject.core(50, "faint 1;gap 20").does("set 0 0", "set 2 0");
        all.asked("total 4", 0);
        all.asked("total 0", 50);
        all.does("addAsh 50 1 0").dueYears(48, 0, 0).dueYears(49, 0, 1);
    }

    private static void noCount() {
        Subject.sentence("Counts: there may be no count, and methods that ask about the best one say so");
        Subject x = Subject.core("layer 5;ash 9 0;faint 6;gap 3");
        String[] asking = {"cost", "years 0 0", "years 0 1", "years 1 0", "years 1 1", "age 0", "age 1", "age 2", "offset 0",
            "total 0", "total 1", "total 2", "total 3", "total 4", "rate 0 1 0", "rate 0 2 1", "rate 1 2 0", "bound 0 0 0",
            "bound 0 0 1", "bound 1 200 0", "bound 2 200 1", "costWith 2 2 0"};
        for (String call : asking) {
            x.refused(call, NONE);
        }
        x.asked("ways", 0);
        x.asked("widen", 8);
        x.asked("without 0", 0);
        Subject.sentence("Changes and errors: INVALID_ARGUMENT rather than NOT_FOUND");
        String[] wrongOnes = {"years 2 0", "years -1 0", "years 0 2", "years 0 -1", "age 3", "age -1", "offset 1", "offset -1",
            "total 5", "total -1", "rate 0 0 0", "rate 1 0 0", "rate 0 3 0", "rate -1 2 0", "rate 0 2 2", "rate 0 2 -1",
            "bound 3 0 0", "bound -1 0 0", "bound 0 201 0", "bound 0 -1 0", "bound 0 0 2", "bound 0 0 -1", "without 1",
            "without -1", "costWith 0 2 0", "costWith 3 2 0", "costWith 2 501 0", "costWith 2 -1 0", "costWith 2 2 10",
            "costWith 2 2 -1", "costWith 1 501 0"};
        for (String call : wrongOnes) {
            x.refused(call, INVALID);
        }
        Subject.sentence("Changes and errors: NOT_POSSIBLE rather than NOT_FOUND");
        x.refused("costWith 1 9 0", IMPOSSIBLE);
        x.refused("costWith 1 1 0", IMPOSSIBLE);
        Subject.sentence("Counts: there is a count again");
        x.does("removeAsh 0").asked("cost", 0);
        x.asked("ways", 1);
        x.does("undo").asked("cost", NONE);
        x.does("setLayer 0 2 8").asked("cost", 24);
        x.does("setLayer 0 2 7").asked("cost", NONE);
    }

    private static void emptyCore() {
        Subject.sentence("Counts: a core without layers has one count, with the cost 0");
        Subject[] empty = {Subject.fresh(), Subject.core("layer 5;ash 9 0").does("removeLayer 0"),
            Subject.core("layer 5;ash 9 0").does("lay"), Subject.core("layer 5").does("undo"),
            Subject.fresh().does("set 0 0", "set 1 0", "set 2 0", "set 3 0")};
        String[] zero = {"cost", "widen", "age 0", "total 0", "total 1", "total 2", "total 3", "total 4", "bound 0 0 0",
            "bound 0 0 1", "bound 0 200 0", "bound 0 200 1", "count 0", "count 1", "count 2"};
        String[] wrongOnes = {"age 1", "years 0 0", "years 0 1", "offset 0", "rate 0 0 0", "rate 0 1 0", "bound 1 0 0",
            "without 0", "costWith 0 0 0", "costWith 1 0 0", "addAsh 0 0 0", "addAsh 1 0 0"};
        for (Subject x : empty) {
            x.asked("ways", 1);
            for (String call : zero) {
                x.asked(call, 0);
            }
            for (String call : wrongOnes) {
                x.refused(call, INVALID);
            }
        }
    }

    // ---- the promises

    private static void cost() {
        Subject.sentence("promise 13: a core without ashes costs nothing");
        dueCost("faint 1;gap 20;thick 1;gap 20;layer 1", 0);
        Subject.sentence("promise 13: the dearest core");
        Subject x = Subject.core(50, "thick 1;gap 20").does("set 0 50", "set 1 50", "set 2 50", "set 3 50");
        x.does("addAsh 50 500 0").asked("cost", 450 * 50);
        x.does("addAsh 25 9 9").asked("cost", NONE);
        x.does("removeAsh 0", "addAsh 25 16 9").asked("cost", 450 * 50 + 9 * 50);
    }

    private static void years() {
        Subject.sentence("promise 14: own years 0, 1 and 2, missing years from 0 to the greatest number");
        Subject x = Subject.core("faint 1;ash 0 0;faint 1;ash 1 0;thick 1;ash 2 0;thick 1;ash 4 0;layer 1;ash 5 0;"
                + "layer 1;gap 20;ash 26 0");
        int[][] due = {{0, 0}, {1, 0}, {1, 0}, {2, 0}, {1, 0}, {1, 20}};
        for (int layer = 0; layer < due.length; layer++) {
            x.asked("years " + layer + " 0", due[layer][0]);
            x.asked("years " + layer + " 1", due[layer][1]);
        }
        x.refused("years 6 0", INVALID);
        x.refused("years 5 2", INVALID);
    }

    private static void offset() {
        Subject.sentence("promise 16: 100 plus the difference, from 91 to 109");
        Subject.core("layer 5;ash 10 9").asked("offset 0", 91);
        Subject.core(Subject.times(10, "layer 5") + "ash 1 9").asked("offset 0", 109);
        Subject x = Subject.core("layer 5;ash 1 0;layer 5;ash 1 1;layer 5;ash 4 1");
        x.asked("offset 0", 100);
        x.asked("offset 1", 101);
        x.asked("offset 2", 99);
        x.refused("offset 3", INVALID);
        x.refused("offset -1", INVALID);
        Subject.core("layer 5;ash 11 9").refused("offset 0", NONE);
    }

    private static void total() {
        Subject.sentence("promise 17: each number of the best count");
        Subject x = Subject.core("faint 1;faint 1;faint 1;ash 1 0;thick 1;thick 1;thick 1;ash 7 0;layer 1;gap 5;layer 1;ash 14 2;"
                + "layer 1;ash 9 9;layer 1");
        // Two of the faint layers are none, in 3 ways; all thick ones are two; 3 years are missing, for
        // with fewer the place is too far from its ash, and each one more is dearer by 3.
        int[] totals = {2, 3, 3, 2 + 4, 14};
        x.asked("ways", 3);
        for (int what = 0; what < totals.length; what++) {
            x.asked("total " + what, totals[what]);
        }
        Subject.sentence("promise 17: faint layers with 0 own years, not layers without missing years");
        Subject none = Subject.core("faint 1;gap 3;layer 1;gap 2;thick 1;ash 6 0");
        int[] noneTotals = {0, 0, 3, 0, 6};
        for (int what = 0; what < noneTotals.length; what++) {
            none.asked("total " + what, noneTotals[what]);
        }
        Subject.sentence("promise 17: all layers of a full core");
        Subject full = Subject.core(50, "faint 1;gap 20");
        full.does("addAsh 50 0 0").asked("total 0", 50);
        full.asked("cost", 200);
        full.asked("total 4", 0);
        full.does("removeAsh 0", "addAsh 50 500 0").asked("total 2", 450);
        Subject thick = Subject.core(50, "thick 1").does("addAsh 50 100 0");
        thick.asked("total 1", 50);
        thick.asked("total 4", 100);
    }

    private static void ways() {
        Subject.sentence("promise 18: at most 1000000, that also if there are more");
        String free = "layer 1;gap 9;";
        Subject exact = Subject.core(free.repeat(6)).does("set 2 0");
        exact.asked("ways", 1000000);
        Subject less = Subject.core("layer 1;gap 1;layer 1;gap 20;ash 11 9;layer 1;gap 8;layer 1;gap 2;layer 1;gap 6;"
                + "layer 1;gap 10;layer 1;gap 12").does("set 2 0", "set 3 0");
        less.asked("ways", 999999);
        Subject more = Subject.core("layer 1;gap 10;thick 1;gap 15;faint 1;gap 6;thick 1;gap 3;faint 1;gap 5;"
                + "layer 1;gap 2;ash 22 8").does("set 0 0", "set 1 0", "set 2 0", "set 3 0");
        more.asked("ways", 1000000);
        Subject five = Subject.core(free.repeat(5)).does("set 2 0");
        five.asked("ways", 100000);
        Subject far = Subject.core(50, "thick 1;gap 20").does("set 1 0", "set 2 0");
        far.asked("ways", 1000000);
        Subject.sentence("promise 18: 0 if there is no count");
        Subject.core("layer 1;ash 9 0").asked("ways", 0);
        far.does("addAsh 50 0 9").asked("ways", 0);
        Subject.sentence("promise 18: counts with the least cost only, each with its own and its missing years");
        Subject own = Subject.core("thick 1;gap 2;ash 3 0");
        own.asked("ways", 1);
        own.does("set 1 3").asked("ways", 2);
        own.does("set 1 2").asked("ways", 1);
        Subject.core("layer 1").asked("ways", 1);
        Subject.core(50, "thick 99;gap 20").asked("ways", 1);
    }

    private static void rate() {
        Subject.sentence("promise 19: upper and lower, one place and all places apart");
        Subject x = Subject.core("layer 99;layer 6;gap 3;ash 5 0;layer 4;gap 3;ash 9 0;layer 5;gap 3;ash 13 0");
        int[][] due = {{0, 1, 99, 1}, {1, 2, 3, 2}, {2, 3, 1, 1}, {3, 4, 5, 4}, {0, 4, 114, 13}, {1, 4, 5, 4}, {1, 3, 5, 4},
            {0, 2, 21, 1}, {2, 4, 9, 8}};
        for (int[] row : due) {
            x.asked("rate " + row[0] + " " + row[1] + " 0", row[2]);
            x.asked("rate " + row[0] + " " + row[1] + " 1", row[3]);
        }
        int[] same = {0, 1, 4};
        for (int place : same) {
            x.refused("rate " + place + " " + place + " 0", INVALID);
        }
        x.refused("rate 2 1 0", INVALID);
        x.refused("rate 4 3 1", INVALID);
        x.refused("rate 4 5 0", INVALID);
        x.refused("rate -1 4 0", INVALID);
        x.refused("rate 0 4 2", INVALID);
        x.refused("rate 0 4 -1", INVALID);
        Subject.sentence("promise 19: NOT_FOUND also if both places have the same age");
        Subject old = Subject.core("faint 7;ash 0 0;layer 3;faint 8;ash 1 0");
        old.refused("rate 0 1 0", NONE);
        old.refused("rate 0 1 1", NONE);
        old.refused("rate 2 3 0", NONE);
        old.asked("rate 0 2 0", 10);
        old.asked("rate 0 2 1", 1);
        old.asked("rate 1 2 0", 3);
        old.asked("rate 0 3 0", 18);
        old.refused("rate 1 1 0", INVALID);
        Subject.sentence("promise 19: the thickest and the oldest core, in lowest terms");
        Subject full = Subject.core(50, "layer 99;gap 20").does("addAsh 50 500 0");
        full.asked("rate 0 50 0", 99);
        full.asked("rate 0 50 1", 10);
        full.does("removeAsh 0").asked("rate 0 50 0", 99);
        full.asked("rate 0 50 1", 1);
        Subject oldest = Subject.core(50, "layer 1;gap 20").does("addAsh 50 500 0", "setLayer 0 0 2");
        oldest.asked("rate 0 50 0", 51);
        oldest.asked("rate 0 50 1", 500);
        oldest.does("setLayer 1 0 50").asked("rate 0 50 0", 1);
        oldest.asked("rate 0 50 1", 5);
    }

    private static void bound() {
        Subject.sentence("promise 20: counts whose cost is at most that of the best one plus a slack");
        Subject x = Subject.core("layer 1;gap 20").does("set 2 50");
        int[][] due = {{0, 1}, {49, 1}, {50, 2}, {99, 2}, {100, 3}, {199, 4}, {200, 5}};
        for (int[] row : due) {
            x.asked("bound 1 " + row[0] + " 1", row[1]);
            x.asked("bound 1 " + row[0] + " 0", 1);
        }
        x.refused("bound 1 201 1", INVALID);
        x.refused("bound 1 -1 1", INVALID);
        x.does("set 2 10").asked("bound 1 200 1", 21);
        x.asked("bound 1 199 1", 20);
        x.does("set 2 11").asked("bound 1 200 1", 19);
        Subject.sentence("promise 20: a place between others, and the top");
        Subject between = Subject.core("layer 1;gap 2;layer 1;gap 2;ash 4 0");
        between.asked("bound 1 0 0", 1);
        between.asked("bound 1 0 1", 3);
        between.asked("bound 2 0 0", 4);
        between.asked("bound 2 0 1", 4);
        between.asked("bound 0 200 0", 0);
        between.asked("bound 0 200 1", 0);
        between.refused("bound 3 0 0", INVALID);
        between.refused("bound -1 0 0", INVALID);
        between.refused("bound 0 0 2", INVALID);
        between.refused("bound 0 0 -1", INVALID);
    }

    private static void boundAndAshes() {
        Subject.sentence("promise 20: what the ashes ask counts, at the place, above and below it");
        Subject x = Subject.core("layer 1;gap 20;ash 10 9").does("set 2 50");
        x.asked("cost", 18);
        x.asked("bound 1 47 1", 1);
        x.asked("bound 1 48 1", 2);
        x.asked("bound 1 200 1", 5);
        x.does("set 2 0").asked("cost", 0);
        x.asked("bound 1 0 0", 10);
        x.asked("bound 1 1 0", 10);
        x.asked("bound 1 2 0", 9);
        x.asked("bound 1 2 1", 11);
        x.asked("bound 1 17 0", 2);
        x.asked("bound 1 18 0", 1);
        x.asked("bound 1 200 1", 19);
        Subject below = Subject.core("layer 1;gap 20;layer 1;ash 10 2").does("set 2 0");
        below.asked("bound 1 3 0", 8);
        below.asked("bound 1 4 0", 7);
        below.asked("bound 1 200 1", 11);
        Subject above = Subject.core("layer 1;gap 20;ash 10 2;layer 1").does("set 2 0");
        above.asked("bound 2 3 1", 12);
        above.asked("bound 2 4 1", 13);
        above.asked("bound 2 200 0", 9);
    }

    private static void without() {
        Subject.sentence("promise 21: the cost of the best count without one ash");
        Subject x = Subject.core("faint 1;ash 0 0;layer 1;gap 9;ash 5 2;layer 1;gap 1;ash 9 0");
        x.asked("cost", 4 + 7 * 3 + 2 * 2);
        x.asked("without 0", 6 * 3 + 2 * 2);
        x.asked("without 1", 4 + 7 * 3);
        x.asked("without 2", 4 + 2 * 3 + 2 * 2);
        x.refused("without 3", INVALID);
        x.refused("without -1", INVALID);
        Subject.sentence("promise 21: NOT_FOUND if there would be no count");
        Subject two = Subject.core("layer 1;ash 9 0;layer 1;ash 2 0;layer 1;ash 4 1");
        two.asked("cost", NONE);
        two.asked("without 0", 2);
        two.refused("without 1", NONE);
        two.refused("without 2", NONE);
        Subject.sentence("promise 21: without the ash its place can still be 0 years old");
        Subject zero = Subject.core("faint 1;ash 1 0;faint 1;ash 0 0");
        zero.asked("cost", NONE);
        zero.asked("without 0", 8);
        zero.asked("without 1", 0);
        Subject.sentence("promise 21: the only ash, at the bottom of one layer");
        Subject only = Subject.core("layer 1;ash 9 0");
        only.asked("without 0", 0);
        only.asked("cost", NONE);
        Subject.sentence("promise 21: six ashes");
        Subject six = Subject.core(6, "layer 1;ash # 0");
        for (int ash = 0; ash < 6; ash++) {
            six.asked("without " + ash, 0);
        }
        six.does("removeAsh 5", "addAsh 6 7 0");
        for (int ash = 0; ash < 6; ash++) {
            six.asked("without " + ash, ash == 5 ? 0 : NONE);
        }
    }

    private static void dueWiden(String core, int want) {
        Subject.core(core).asked("widen", want);
    }

    private static void widen() {
        Subject.sentence("promise 22: 0 if there is a count");
        dueWiden("layer 1", 0);
        dueWiden("layer 1;ash 1 0", 0);
        dueWiden("layer 1;ash 10 9", 0);
        dueWiden("faint 1;ash 0 0", 0);
        dueWiden("layer 1;ash 0 1", 0);
        Subject.sentence("promise 22: the least number that suffices");
        dueWiden("layer 1;ash 11 9", 1);
        dueWiden("layer 1;ash 2 0", 1);
        dueWiden("layer 1;ash 0 0", 1);
        dueWiden("layer 1;layer 1;ash 0 0", 2);
        dueWiden("layer 1;gap 20;ash 22 0", 1);
        dueWiden("thick 1;gap 20;ash 22 0", 0);
        dueWiden("thick 1;gap 20;ash 23 0", 1);
        dueWiden("thick 1;ash 500 9", 489);
        dueWiden("layer 1;ash 256 0", 255);
        dueWiden("layer 1;ash 257 0", 256);
        dueWiden("layer 1;ash 258 0", 257);
        Subject.sentence("promise 22: the greatest number that can be");
        dueWiden("layer 1;ash 500 0", 499);
        dueWiden("faint 1;ash 500 0", 499);
        dueWiden("layer 1;ash 500 0;layer 1;ash 0 0", 499);
        dueWiden(Subject.times(50, "layer 1") + "ash 0 0", 50);
        Subject.sentence("promise 22: all uncertainties by the same number");
        dueWiden("layer 1;ash 5 0;layer 1;ash 1 0", 4);
        dueWiden("layer 1;gap 20;ash 5 0;layer 1;ash 1 0", 3);
        dueWiden("layer 1;gap 20;ash 5 2;layer 1;ash 1 0", 2);
        dueWiden("layer 1;gap 20;ash 21 0;layer 1;ash 1 9", 6);
        Subject.sentence("promise 22: two ashes of the same age with years between them");
        String thick = Subject.times(30, "thick 1;gap 20");
        dueWiden(thick + "ash 500 0;" + Subject.times(20, "layer 1") + "ash 500 0", 10);
        dueWiden(thick + "ash 500 9;" + Subject.times(20, "layer 1") + "ash 500 9", 1);
    }

    private static void costWith() {
        Subject.sentence("promise 23: the cost with one more ash, and nothing changes");
        Subject x = Subject.core("faint 1;layer 1;gap 9;layer 1;ash 3 1");
        x.asked("costWith 1 0 0", 4 + 2);
        x.asked("costWith 1 0 1", 2);
        x.asked("costWith 1 1 0", 0);
        x.refused("costWith 1 2 0", NONE);
        x.asked("costWith 1 2 1", 2);
        x.refused("costWith 1 11 9", NONE);
        x.asked("costWith 1 10 9", 18);
        x.asked("costWith 2 3 0", 3 + 2);
        x.refused("costWith 2 4 0", NONE);
        x.refused("costWith 2 500 9", NONE);
        Subject.sentence("promise 23: place 1 to the number of layers");
        x.refused("costWith 0 0 0", INVALID);
        x.refused("costWith 4 3 0", INVALID);
        Subject.sentence("promise 23: NOT_POSSIBLE if there is an ash at this place");
        x.refused("costWith 3 3 0", IMPOSSIBLE);
        x.refused("costWith 3 0 0", IMPOSSIBLE);
        x.refused("costWith 3 501 0", INVALID);
        x.refused("costWith 3 3 10", INVALID);
        Subject.sentence("promise 23: as addAsh and cost would tell");
        for (int age = 0; age <= 5; age++) {
            Subject added = x.twin().does("addAsh 2 " + age + " 1");
            x.asked("costWith 2 " + age + " 1", added.answer("cost"));
        }
        Subject.sentence("promise 23: NOT_FOUND if there is no count anyway");
        Subject none = Subject.core("layer 1;layer 1;ash 9 0");
        none.refused("costWith 1 1 0", NONE);
        none.refused("costWith 2 1 0", IMPOSSIBLE);
    }

    private static void costWithSixAshes() {
        Subject.sentence("promise 23: it does not matter whether there are 6 ashes");
        Subject full = Subject.clear(8);
        for (int place = 1; place <= 5; place++) {
            full.does("addAsh " + place + " " + place + " 0");
        }
        full.asked("costWith 7 9 2", 4);
        full.does("addAsh 6 6 0");
        full.asked("costWith 7 9 2", 4);
        full.asked("costWith 8 8 0", 0);
        full.refused("costWith 7 9 1", NONE);
        full.refused("costWith 6 6 0", IMPOSSIBLE);
        full.refused("costWith 9 9 0", INVALID);
        full.refused("addAsh 7 9 2", Subject.LIMIT);
        full.refused("addAsh 6 9 2", IMPOSSIBLE);
    }
}
