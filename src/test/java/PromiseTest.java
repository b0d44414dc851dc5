/** Each promise of the document: ordinary calls, the edges that it names, and wrong arguments. */
public final class PromiseTest {
    private static final int INVALID = VarveClock.INVALID_ARGUMENT;
    private static final int IMPOSSIBLE = VarveClock.NOT_POSSIBLE;
    private static final int LIMIT = VarveClock.LIMIT_REACHED;
    private static final int NONE = VarveClock.NOT_FOUND;
    private static final int FAR = Integer.MAX_VALUE;
    private static final int DEEP = Integer.MIN_VALUE;

    private static int wrong = 0;
    private static String part = "";

    private static void due(String call, int got, int want) {
        if (got != want) {
            wrong++;
            System.out.println(part + ": " + call + " answered " + got + ", due is " + want);
        }
    }

    public static void main(String[] args) {
        constants();
        newObject();
        addLayer();
        addLayerMovesAshes();
        removeLayer();
        removeLayerAndAshes();
        setLayer();
        addAsh();
        removeAsh();
        set();
        lay();
        undo();
        changesAndErrors();
        count();
        layer();
        ash();
        cost();
        years();
        bestOfSeveral();
        age();
        ageLimit();
        offset();
        total();
        ways();
        rate();
        bound();
        without();
        widen();
        costWith();
        type();
        clearText();
        fault();
        faultOfForms();
        faultOfRanges();
        faultOfFullTexts();
        fullCore();
        endlessArguments();
        System.out.println(wrong == 0 ? "all answers are as due" : wrong + " answers are not as due");
        if (wrong != 0) {
            System.exit(1);
        }
    }

    /** A core of clear layers without missing years. */
    private static VarveClock clearCore(int layers) {
        VarveClock x = new VarveClock();
        for (int i = 0; i < layers; i++) {
            x.addLayer(i, i + 1, 0, 0);
        }
        return x;
    }

    private static void write(VarveClock x, String text) {
        x.clearText();
        for (int i = 0; i < text.length(); i++) {
            x.type(text.charAt(i));
        }
    }

    private static VarveClock laid(String text) {
        VarveClock x = new VarveClock();
        write(x, text);
        if (x.lay() < 0) {
            due("lay of " + text, -1, 0);
        }
        return x;
    }

    private static void dueLayer(VarveClock x, int layer, int thickness, int kind, int missing) {
        due("layer(" + layer + ", 0)", x.layer(layer, 0), thickness);
        due("layer(" + layer + ", 1)", x.layer(layer, 1), kind);
        due("layer(" + layer + ", 2)", x.layer(layer, 2), missing);
    }

    private static void dueAsh(VarveClock x, int ash, int place, int age, int uncertainty) {
        due("ash(" + ash + ", 0)", x.ash(ash, 0), place);
        due("ash(" + ash + ", 1)", x.ash(ash, 1), age);
        due("ash(" + ash + ", 2)", x.ash(ash, 2), uncertainty);
    }

    private static void dueYears(VarveClock x, int layer, int own, int missing) {
        due("years(" + layer + ", 0)", x.years(layer, 0), own);
        due("years(" + layer + ", 1)", x.years(layer, 1), missing);
    }

    private static void constants() {
        part = "constants";
        due("INVALID_ARGUMENT", INVALID, -1);
        due("NOT_POSSIBLE", IMPOSSIBLE, -2);
        due("LIMIT_REACHED", LIMIT, -3);
        due("NOT_FOUND", NONE, -4);
    }

    private static void newObject() {
        part = "promise 1";
        VarveClock x = new VarveClock();
        int[] counts = {0, 0, 0, 0, 0, 4, 5, 3, 2, 0};
        for (int what = 0; what < counts.length; what++) {
            due("count(" + what + ")", x.count(what), counts[what]);
        }
        due("cost()", x.cost(), 0);
        due("ways()", x.ways(), 1);
        due("age(0)", x.age(0), 0);
        due("clearText()", x.clearText(), 0);
        due("undo()", x.undo(), IMPOSSIBLE);
        x.set(0, 9);
        due("count(5) of another object", new VarveClock().count(5), 4);
    }

    private static void addLayer() {
        part = "promise 2";
        VarveClock x = new VarveClock();
        due("addLayer at 1 of 0", x.addLayer(1, 1, 0, 0), INVALID);
        due("addLayer at -1", x.addLayer(-1, 1, 0, 0), INVALID);
        due("least values", x.addLayer(0, 1, 0, 0), 1);
        due("greatest values", x.addLayer(1, 99, 2, 20), 2);
        due("in between", x.addLayer(1, 50, 1, 7), 3);
        due("on top", x.addLayer(0, 3, 0, 1), 4);
        dueLayer(x, 0, 3, 0, 1);
        dueLayer(x, 1, 1, 0, 0);
        dueLayer(x, 2, 50, 1, 7);
        dueLayer(x, 3, 99, 2, 20);
        int[][] refused = {{5, 1, 0, 0}, {FAR, 1, 0, 0}, {DEEP, 1, 0, 0}, {0, 0, 0, 0}, {0, 100, 0, 0},
            {0, DEEP, 0, 0}, {0, 1, -1, 0}, {0, 1, 3, 0}, {0, 1, FAR, 0}, {0, 1, 0, -1}, {0, 1, 0, 21}};
        for (int i = 0; i < refused.length; i++) {
            int[] r = refused[i];
            due("refused " + i, x.addLayer(r[0], r[1], r[2], r[3]), INVALID);
        }
        due("count(9)", x.count(9), 4);
        VarveClock full = clearCore(50);
        due("count(0)", full.count(0), 50);
        due("a 51st", full.addLayer(0, 1, 0, 0), LIMIT);
        due("a 51st at the bottom", full.addLayer(50, 1, 0, 0), LIMIT);
        due("a 51st that is wrong", full.addLayer(51, 1, 0, 0), INVALID);
        due("a 51st that is wrong", full.addLayer(0, 100, 0, 0), INVALID);
        due("removeLayer", full.removeLayer(20), 49);
        due("a 50th again", full.addLayer(49, 1, 0, 0), 50);
    }

    private static void addLayerMovesAshes() {
        part = "promise 2";
        VarveClock x = clearCore(3);
        x.addAsh(1, 1, 1);
        x.addAsh(2, 2, 2);
        x.addAsh(3, 3, 3);
        x.addLayer(2, 9, 0, 0);
        dueAsh(x, 0, 1, 1, 1);
        dueAsh(x, 1, 2, 2, 2);
        dueAsh(x, 2, 4, 3, 3);
        x.addLayer(0, 9, 0, 0);
        dueAsh(x, 0, 2, 1, 1);
        dueAsh(x, 1, 3, 2, 2);
        dueAsh(x, 2, 5, 3, 3);
        x.addLayer(5, 9, 0, 0);
        dueAsh(x, 2, 5, 3, 3);
        due("count(0)", x.count(0), 6);
    }

    private static void removeLayer() {
        part = "promise 3";
        VarveClock x = clearCore(4);
        due("removeLayer(4)", x.removeLayer(4), INVALID);
        due("removeLayer(-1)", x.removeLayer(-1), INVALID);
        due("removeLayer(DEEP)", x.removeLayer(DEEP), INVALID);
        due("removeLayer(1)", x.removeLayer(1), 3);
        dueLayer(x, 0, 1, 0, 0);
        dueLayer(x, 1, 3, 0, 0);
        dueLayer(x, 2, 4, 0, 0);
        due("removeLayer(2)", x.removeLayer(2), 2);
        due("removeLayer(0)", x.removeLayer(0), 1);
        dueLayer(x, 0, 3, 0, 0);
        due("removeLayer(0)", x.removeLayer(0), 0);
        due("removeLayer(0)", x.removeLayer(0), INVALID);
    }

    private static void removeLayerAndAshes() {
        part = "promise 3";
        VarveClock x = clearCore(5);
        x.addAsh(1, 10, 1);
        x.addAsh(3, 30, 3);
        x.addAsh(5, 50, 5);
        x.removeLayer(2);
        due("count(1), the place above is free", x.count(1), 3);
        dueAsh(x, 1, 2, 30, 3);
        dueAsh(x, 2, 4, 50, 5);
        x.removeLayer(1);
        due("count(1), an ash above", x.count(1), 2);
        dueAsh(x, 0, 1, 10, 1);
        dueAsh(x, 1, 3, 50, 5);
        x.removeLayer(0);
        due("count(1), the place would be 0", x.count(1), 1);
        dueAsh(x, 0, 2, 50, 5);
        x.removeLayer(0);
        dueAsh(x, 0, 1, 50, 5);
        x.removeLayer(0);
        due("count(1)", x.count(1), 0);
        x.undo();
        dueAsh(x, 0, 1, 50, 5);
        VarveClock y = clearCore(3);
        y.addAsh(1, 1, 0);
        y.addAsh(2, 2, 0);
        y.removeLayer(2);
        due("count(1), no ash below", y.count(1), 2);
        y.removeLayer(0);
        due("count(1), the lower one moves up", y.count(1), 1);
        dueAsh(y, 0, 1, 2, 0);
    }

    private static void setLayer() {
        part = "promise 4";
        VarveClock x = clearCore(2);
        due("setLayer(1, 0, 99)", x.setLayer(1, 0, 99), 2);
        due("setLayer(1, 0, 1)", x.setLayer(1, 0, 1), 99);
        due("setLayer(1, 1, 2)", x.setLayer(1, 1, 2), 0);
        due("setLayer(1, 1, 0)", x.setLayer(1, 1, 0), 2);
        due("setLayer(1, 2, 20)", x.setLayer(1, 2, 20), 0);
        due("setLayer(1, 2, 0)", x.setLayer(1, 2, 0), 20);
        due("setLayer(0, 1, 1)", x.setLayer(0, 1, 1), 0);
        int states = x.count(9);
        int[][] refused = {{2, 0, 5}, {-1, 0, 5}, {0, -1, 1}, {0, 3, 1}, {0, 0, 0}, {0, 0, 100},
            {0, 1, -1}, {0, 1, 3}, {0, 2, -1}, {0, 2, 21}, {FAR, FAR, FAR}, {0, DEEP, 1}};
        for (int i = 0; i < refused.length; i++) {
            int[] r = refused[i];
            due("refused " + i, x.setLayer(r[0], r[1], r[2]), INVALID);
        }
        dueLayer(x, 0, 1, 1, 0);
        dueLayer(x, 1, 1, 0, 0);
        due("count(9)", x.count(9), states);
    }

    private static void addAsh() {
        part = "promise 5";
        VarveClock x = clearCore(8);
        due("addAsh at 0", x.addAsh(0, 5, 5), INVALID);
        due("addAsh at 9", x.addAsh(9, 5, 5), INVALID);
        due("age -1", x.addAsh(1, -1, 5), INVALID);
        due("age 501", x.addAsh(1, 501, 5), INVALID);
        due("uncertainty -1", x.addAsh(1, 5, -1), INVALID);
        due("uncertainty 10", x.addAsh(1, 5, 10), INVALID);
        due("addAsh(4, 0, 0)", x.addAsh(4, 0, 0), 0);
        due("addAsh(8, 500, 9)", x.addAsh(8, 500, 9), 1);
        due("addAsh(6, 6, 1)", x.addAsh(6, 6, 1), 1);
        due("addAsh(1, 7, 2)", x.addAsh(1, 7, 2), 0);
        due("addAsh(2, 8, 3)", x.addAsh(2, 8, 3), 1);
        due("addAsh(4, 9, 9) again", x.addAsh(4, 9, 9), IMPOSSIBLE);
        due("addAsh(4, 501, 9) again", x.addAsh(4, 501, 9), INVALID);
        due("addAsh(7, 5, 5)", x.addAsh(7, 5, 5), 4);
        dueAsh(x, 0, 1, 7, 2);
        dueAsh(x, 1, 2, 8, 3);
        dueAsh(x, 2, 4, 0, 0);
        dueAsh(x, 3, 6, 6, 1);
        dueAsh(x, 4, 7, 5, 5);
        dueAsh(x, 5, 8, 500, 9);
        due("a 7th", x.addAsh(3, 5, 5), LIMIT);
        due("a 7th at an ash", x.addAsh(4, 5, 5), IMPOSSIBLE);
        due("a 7th that is wrong", x.addAsh(3, 5, 10), INVALID);
        due("count(1)", x.count(1), 6);
        due("addAsh in an empty core", new VarveClock().addAsh(0, 5, 5), INVALID);
    }

    private static void removeAsh() {
        part = "promise 6";
        VarveClock x = clearCore(3);
        due("removeAsh(0)", x.removeAsh(0), INVALID);
        x.addAsh(1, 1, 1);
        x.addAsh(2, 2, 2);
        x.addAsh(3, 3, 3);
        due("removeAsh(3)", x.removeAsh(3), INVALID);
        due("removeAsh(-1)", x.removeAsh(-1), INVALID);
        due("removeAsh(1)", x.removeAsh(1), 2);
        dueAsh(x, 0, 1, 1, 1);
        dueAsh(x, 1, 3, 3, 3);
        due("removeAsh(0)", x.removeAsh(0), 1);
        dueAsh(x, 0, 3, 3, 3);
        due("removeAsh(0)", x.removeAsh(0), 0);
        due("removeAsh(0)", x.removeAsh(0), INVALID);
        due("count(9)", x.count(9), 6);
    }

    private static void set() {
        part = "promise 7";
        VarveClock x = new VarveClock();
        int[] initial = {4, 5, 3, 2};
        for (int what = 0; what < 4; what++) {
            due("set(" + what + ", 50)", x.set(what, 50), initial[what]);
            due("set(" + what + ", 0)", x.set(what, 0), 50);
            due("set(" + what + ", n)", x.set(what, 11 + what), 0);
            due("set(" + what + ", -1)", x.set(what, -1), INVALID);
            due("set(" + what + ", 51)", x.set(what, 51), INVALID);
        }
        for (int what = 0; what < 4; what++) {
            due("count(" + (5 + what) + ")", x.count(5 + what), 11 + what);
        }
        due("set(-1, 1)", x.set(-1, 1), INVALID);
        due("set(4, 1)", x.set(4, 1), INVALID);
        due("set(FAR, 1)", x.set(FAR, 1), INVALID);
    }

    private static void lay() {
        part = "promise 8";
        VarveClock x = clearCore(7);
        x.addAsh(7, 5, 5);
        x.set(2, 17);
        write(x, "layer 7;faint 099;gap 3;ash 012 9;thick 1;gap 20;gap 05;ash 500 0;");
        due("lay()", x.lay(), 3);
        due("count(0)", x.count(0), 3);
        dueLayer(x, 0, 7, 0, 0);
        dueLayer(x, 1, 99, 1, 3);
        dueLayer(x, 2, 1, 2, 5);
        due("count(1)", x.count(1), 2);
        dueAsh(x, 0, 2, 12, 9);
        dueAsh(x, 1, 3, 500, 0);
        due("the settings stay", x.count(7), 17);
        due("the text stays", x.fault(), NONE);
        due("lay() again", x.lay(), 3);
        due("count(9)", x.count(9), 6);
        x.type('g');
        due("lay() with a fault", x.lay(), IMPOSSIBLE);
        due("count(0)", x.count(0), 3);
        due("count(9)", x.count(9), 6);
        due("the text's length", x.clearText(), 67);
        due("lay() of an empty text", x.lay(), 0);
        due("count(0)", x.count(0), 0);
        due("count(1)", x.count(1), 0);
        due("undo()", x.undo(), 5);
        due("count(0)", x.count(0), 3);
        dueAsh(x, 1, 3, 500, 0);
        VarveClock y = laid("layer 5;ash 4 2;gap 6;");
        dueLayer(y, 0, 5, 0, 6);
        dueAsh(y, 0, 1, 4, 2);
        VarveClock late = laid("layer 5;gap 6;");
        late.setLayer(0, 2, 9);
        due("lay() makes a layer without missing years", late.lay(), 1);
        dueLayer(late, 0, 5, 0, 6);
        write(late, "thick 5;");
        late.lay();
        dueLayer(late, 0, 5, 2, 0);
    }

    private static void undo() {
        part = "promise 9";
        VarveClock x = new VarveClock();
        x.addLayer(0, 10, 0, 1);
        x.addLayer(1, 20, 1, 2);
        x.addAsh(2, 6, 3);
        x.set(1, 33);
        x.setLayer(0, 0, 77);
        write(x, "layer 5;");
        x.lay();
        due("count(9)", x.count(9), 6);
        due("undo of lay", x.undo(), 5);
        dueLayer(x, 0, 77, 0, 1);
        dueAsh(x, 0, 2, 6, 3);
        due("undo of setLayer", x.undo(), 4);
        dueLayer(x, 0, 10, 0, 1);
        due("undo of set", x.undo(), 3);
        due("count(6)", x.count(6), 5);
        due("undo of addAsh", x.undo(), 2);
        due("count(1)", x.count(1), 0);
        due("undo of addLayer", x.undo(), 1);
        due("count(0)", x.count(0), 1);
        due("undo of addLayer", x.undo(), 0);
        due("count(0)", x.count(0), 0);
        due("undo()", x.undo(), IMPOSSIBLE);
        due("the text stays", x.clearText(), 8);
        VarveClock full = clearCore(9);
        for (int left = 5; left >= 0; left--) {
            due("undo() of 9", full.undo(), left);
        }
        due("undo() of 9", full.undo(), IMPOSSIBLE);
        due("count(0)", full.count(0), 3);
        VarveClock removed = clearCore(2);
        removed.addAsh(1, 4, 4);
        removed.removeAsh(0);
        removed.removeLayer(0);
        due("undo of removeLayer", removed.undo(), 4);
        dueLayer(removed, 0, 1, 0, 0);
        due("undo of removeAsh", removed.undo(), 3);
        dueAsh(removed, 0, 1, 4, 4);
        due("a change after undo", removed.set(0, 1), 4);
        due("undo of it", removed.undo(), 3);
        due("count(1)", removed.count(1), 1);
    }

    private static void changesAndErrors() {
        part = "changes and errors";
        VarveClock x = clearCore(1);
        x.addAsh(1, 1, 1);
        due("count(9)", x.count(9), 2);
        x.set(0, 4);
        x.setLayer(0, 0, 1);
        due("changes without a difference", x.count(9), 4);
        x.cost();
        x.bound(1, 5, 1);
        x.without(0);
        x.widen();
        x.type('a');
        x.fault();
        x.lay();
        x.clearText();
        x.addLayer(9, 1, 1, 1);
        x.addAsh(1, 1, 1);
        due("what is no change", x.count(9), 4);
        due("undo()", x.undo(), 3);
        due("cost() after undo", x.cost(), 0);
        x.addLayer(0, 1, 1, 0);
        due("cost() before undo", x.cost(), 2);
        x.undo();
        due("cost() after undo", x.cost(), 0);
    }

    private static void count() {
        part = "promise 10";
        VarveClock x = laid("layer 10;faint 20;thick 30;faint 40;ash 3 2;faint 9;");
        x.set(0, 1);
        x.set(1, 22);
        x.set(2, 13);
        x.set(3, 44);
        int[] counts = {5, 1, 109, 3, 1, 1, 22, 13, 44, 5};
        for (int what = 0; what < counts.length; what++) {
            due("count(" + what + ")", x.count(what), counts[what]);
        }
        VarveClock ends = laid("thick 5;layer 2;faint 1;");
        due("count(3), the last layer", ends.count(3), 1);
        due("count(4), the first layer", ends.count(4), 1);
        due("count(2), the first layer", ends.count(2), 8);
        due("count(-1)", x.count(-1), INVALID);
        due("count(10)", x.count(10), INVALID);
        due("count(FAR)", x.count(FAR), INVALID);
        due("count(DEEP)", x.count(DEEP), INVALID);
    }

    private static void layer() {
        part = "promise 11";
        VarveClock x = laid("layer 10;faint 20;gap 4;thick 30;gap 8;");
        dueLayer(x, 0, 10, 0, 0);
        dueLayer(x, 1, 20, 1, 4);
        dueLayer(x, 2, 30, 2, 8);
        due("layer(3, 0)", x.layer(3, 0), INVALID);
        due("layer(-1, 0)", x.layer(-1, 0), INVALID);
        due("layer(0, -1)", x.layer(0, -1), INVALID);
        due("layer(0, 3)", x.layer(0, 3), INVALID);
        due("layer(FAR, DEEP)", x.layer(FAR, DEEP), INVALID);
        due("layer(0, 0) of none", new VarveClock().layer(0, 0), INVALID);
    }

    private static void ash() {
        part = "promise 12";
        VarveClock x = laid("layer 10;ash 11 3;faint 20;thick 30;ash 5 0;");
        dueAsh(x, 0, 1, 11, 3);
        dueAsh(x, 1, 3, 5, 0);
        due("ash(2, 0)", x.ash(2, 0), INVALID);
        due("ash(-1, 0)", x.ash(-1, 0), INVALID);
        due("ash(0, -1)", x.ash(0, -1), INVALID);
        due("ash(0, 3)", x.ash(0, 3), INVALID);
        due("ash(DEEP, FAR)", x.ash(DEEP, FAR), INVALID);
        due("ash(0, 0) of none", clearCore(2).ash(0, 0), INVALID);
    }

    private static void cost() {
        part = "promise 13";
        due("no ash", laid("layer 1;faint 1;thick 1;gap 5;").cost(), 0);
        due("a faint layer is none", laid("layer 1;faint 1;ash 1 0;").cost(), 4);
        due("or the ash differs", laid("layer 1;faint 1;ash 1 1;").cost(), 2);
        due("a thick layer is two", laid("layer 1;thick 1;ash 3 0;").cost(), 5);
        due("a missing year", laid("layer 1;gap 1;thick 1;ash 3 0;").cost(), 3);
        due("both", laid("layer 1;gap 1;thick 1;ash 4 0;").cost(), 8);
        due("too far", laid("layer 1;gap 1;thick 1;ash 5 0;").cost(), NONE);
        due("at the uncertainty", laid("layer 1;gap 1;thick 1;ash 5 1;").cost(), 10);
        due("too near", laid("layer 1;layer 1;ash 1 0;").cost(), NONE);
        due("ashes against one another", laid("layer 1;ash 1 0;layer 1;ash 1 0;").cost(), NONE);
        VarveClock x = laid("layer 1;gap 20;ash 10 9;");
        due("W below G", x.cost(), 18);
        x.set(2, 1);
        due("G below W", x.cost(), 9);
        x.set(3, 0);
        due("W of 0", x.cost(), 0);
        x.removeAsh(0);
        due("without the ash", x.cost(), 0);
    }

    private static void years() {
        part = "promise 14";
        VarveClock x = laid("faint 1;thick 1;gap 4;layer 1;ash 6 0;");
        dueYears(x, 0, 1, 0);
        dueYears(x, 1, 1, 3);
        dueYears(x, 2, 1, 0);
        x.set(1, 2);
        dueYears(x, 1, 2, 2);
        due("years(3, 0)", x.years(3, 0), INVALID);
        due("years(-1, 0)", x.years(-1, 0), INVALID);
        due("years(0, -1)", x.years(0, -1), INVALID);
        due("years(0, 2)", x.years(0, 2), INVALID);
        x.addAsh(1, 9, 0);
        due("years(0, 0) without a count", x.years(0, 0), NONE);
        due("years(0, 2) without a count", x.years(0, 2), INVALID);
        due("years(0, 0) of none", new VarveClock().years(0, 0), INVALID);
    }

    private static void bestOfSeveral() {
        part = "promise 14, the best of several";
        VarveClock x = laid("layer 1;gap 2;layer 1;gap 2;layer 1;gap 2;ash 6 0;");
        dueYears(x, 0, 1, 0);
        dueYears(x, 1, 1, 1);
        dueYears(x, 2, 1, 2);
        VarveClock faint = laid("faint 1;faint 1;ash 1 0;");
        dueYears(faint, 0, 0, 0);
        dueYears(faint, 1, 1, 0);
        VarveClock thick = laid("thick 1;thick 1;ash 3 0;");
        dueYears(thick, 0, 1, 0);
        dueYears(thick, 1, 2, 0);
        VarveClock own = laid("thick 1;gap 9;ash 4 0;");
        own.set(1, 3);
        dueYears(own, 0, 1, 3);
        own.set(1, 2);
        dueYears(own, 0, 2, 2);
        VarveClock none = laid("faint 1;gap 1;ash 1 0;");
        none.set(0, 0);
        none.set(2, 0);
        dueYears(none, 0, 0, 1);
        VarveClock late = laid("thick 1;gap 2;thick 1;ash 3 1;");
        late.set(1, 0);
        late.set(2, 0);
        late.set(3, 0);
        dueYears(late, 0, 1, 0);
        dueYears(late, 1, 1, 0);
    }

    private static void age() {
        part = "promise 15";
        VarveClock x = laid("faint 1;thick 1;gap 4;layer 1;ash 6 0;layer 1;");
        int[] ages = {0, 1, 5, 6, 7};
        for (int place = 0; place < ages.length; place++) {
            due("age(" + place + ")", x.age(place), ages[place]);
        }
        due("age(-1)", x.age(-1), INVALID);
        due("age(5)", x.age(5), INVALID);
        x.addAsh(1, 9, 0);
        due("age(0) without a count", x.age(0), NONE);
        due("age(5) without a count", x.age(5), INVALID);
        due("age(1) of none", new VarveClock().age(1), INVALID);
    }

    private static void ageLimit() {
        part = "promise 15, no age above 600";
        VarveClock x = new VarveClock();
        for (int i = 0; i < 30; i++) {
            x.addLayer(i, 1, 2, 20);
        }
        due("the greatest age", x.bound(30, 200, 1), 30 + 66);
        x.set(1, 0);
        x.set(2, 0);
        due("the greatest age", x.bound(30, 0, 1), 600);
        due("the greatest age above", x.bound(29, 0, 1), 599);
        due("the greatest age of the top", x.bound(1, 0, 1), 22);
        x.addAsh(27, 500, 0);
        due("the greatest age below an ash", x.bound(30, 0, 1), 566);
        VarveClock deep = new VarveClock();
        for (int i = 0; i < 50; i++) {
            deep.addLayer(i, 1, 2, 20);
        }
        deep.addAsh(1, 22, 9);
        deep.addAsh(24, 500, 0);
        due("cost()", deep.cost(), (500 - 24) * 3 + 2);
        due("age(24)", deep.age(24), 500);
        due("age(50)", deep.age(50), 526);
        deep.addAsh(50, 500, 9);
        due("cost() if too many layers are below", deep.cost(), NONE);
        due("widen()", deep.widen(), 9);
    }

    private static void offset() {
        part = "promise 16";
        VarveClock x = laid("layer 1;ash 3 2;layer 1;ash 2 0;layer 1;ash 0 9;");
        due("offset(0)", x.offset(0), 98);
        due("offset(1)", x.offset(1), 100);
        due("offset(2)", x.offset(2), 103);
        due("offset(3)", x.offset(3), INVALID);
        due("offset(-1)", x.offset(-1), INVALID);
        x.setLayer(2, 2, 20);
        x.removeAsh(2);
        x.addAsh(3, 9, 0);
        due("offset(2)", x.offset(2), 100);
        x.removeAsh(2);
        x.addAsh(3, 1, 0);
        due("offset(0) without a count", x.offset(0), NONE);
        due("offset(3) without a count", x.offset(3), INVALID);
        VarveClock least = laid("layer 1;ash 10 9;");
        due("offset(0)", least.offset(0), 91);
        due("offset(0) of none", clearCore(1).offset(0), INVALID);
    }

    private static void total() {
        part = "promise 17";
        VarveClock x = laid("faint 1;faint 1;ash 0 0;thick 1;thick 1;ash 4 0;layer 1;gap 9;ash 8 1;");
        int[] totals = {2, 2, 2, 1, 7};
        for (int what = 0; what < totals.length; what++) {
            due("total(" + what + ")", x.total(what), totals[what]);
        }
        due("total(-1)", x.total(-1), INVALID);
        due("total(5)", x.total(5), INVALID);
        x.addLayer(5, 1, 0, 0);
        due("total(4), at the bottom", x.total(4), 8);
        VarveClock mixed = laid("faint 1;gap 2;faint 1;ash 3 0;thick 1;thick 1;layer 1;ash 7 0;");
        int[] mixedTotals = {0, 1, 1, 0, 7};
        for (int what = 0; what < mixedTotals.length; what++) {
            due("total(" + what + ") of the mixed one", mixed.total(what), mixedTotals[what]);
        }
        due("total(2), behind the first layer", laid("layer 1;gap 2;layer 1;ash 4 0;faint 1;").total(2), 2);
        VarveClock signs = laid("layer 1;ash 3 2;layer 1;ash 1 1;");
        due("total(3)", signs.total(3), 3);
        signs.addAsh(1, 0, 0);
        signs.removeAsh(0);
        signs.addAsh(1, 9, 0);
        due("total(0) without a count", signs.total(0), NONE);
        due("total(5) without a count", signs.total(5), INVALID);
        VarveClock none = new VarveClock();
        for (int what = 0; what < 5; what++) {
            due("total of an empty core", none.total(what), 0);
        }
    }

    private static void ways() {
        part = "promise 18";
        due("one", laid("faint 1;thick 1;layer 1;gap 20;").ways(), 1);
        due("one of two", laid("faint 1;faint 1;ash 1 0;").ways(), 2);
        due("missing years", laid("layer 1;gap 2;layer 1;gap 2;layer 1;gap 2;ash 6 0;").ways(), 7);
        due("no count", laid("layer 1;ash 9 0;").ways(), 0);
        VarveClock own = laid("thick 1;gap 9;ash 4 0;");
        own.set(1, 3);
        due("as many years in two ways", own.ways(), 2);
        VarveClock offsets = laid("layer 1;gap 2;ash 2 1;layer 1;gap 2;ash 5 1;");
        due("one of two ashes", offsets.ways(), 1);
        offsets.set(2, 2);
        due("a year is as dear as the ash", offsets.ways(), 2);
        offsets.removeAsh(0);
        due("without the upper ash", offsets.ways(), 3 + 2);
        VarveClock free = laid("thick 1;gap 9;faint 1;gap 4;");
        free.set(0, 0);
        free.set(1, 0);
        free.set(2, 0);
        due("all free", free.ways(), 2 * 10 * 2 * 5);
        VarveClock many = new VarveClock();
        many.set(0, 0);
        for (int i = 0; i < 19; i++) {
            many.addLayer(i, 1, 1, 0);
        }
        due("2 to the 19", many.ways(), 524288);
        many.addLayer(0, 1, 1, 0);
        due("2 to the 20", many.ways(), 1000000);
        for (int i = 20; i < 50; i++) {
            many.addLayer(i, 1, 1, 0);
        }
        due("2 to the 50", many.ways(), 1000000);
        many.set(2, 0);
        for (int i = 0; i < 50; i++) {
            many.setLayer(i, 2, 20);
        }
        due("far more", many.ways(), 1000000);
        due("far more, again", many.ways(), 1000000);
    }

    private static void rate() {
        part = "promise 19";
        VarveClock x = laid("layer 12;faint 8;ash 1 0;thick 99;ash 3 0;layer 40;gap 9;ash 10 0;");
        due("rate(0, 4, 0)", x.rate(0, 4, 0), 159);
        due("rate(0, 4, 1)", x.rate(0, 4, 1), 10);
        due("rate(2, 3, 0)", x.rate(2, 3, 0), 99);
        due("rate(2, 3, 1)", x.rate(2, 3, 1), 2);
        due("rate(0, 2, 0)", x.rate(0, 2, 0), 20);
        due("rate(0, 2, 1)", x.rate(0, 2, 1), 1);
        due("rate(1, 2, 0), as old", x.rate(1, 2, 0), NONE);
        due("rate(1, 2, 1), as old", x.rate(1, 2, 1), NONE);
        due("rate(1, 4, 0)", x.rate(1, 4, 0), 49);
        due("rate(1, 4, 1)", x.rate(1, 4, 1), 3);
        VarveClock twice = laid("layer 3;layer 3;layer 10;layer 26;");
        due("rate(0, 4, 0), by 2", twice.rate(0, 4, 0), 21);
        due("rate(0, 4, 1), by 2", twice.rate(0, 4, 1), 2);
        due("rate(0, 2, 0), whole", twice.rate(0, 2, 0), 3);
        due("rate(2, 4, 1), whole", twice.rate(2, 4, 1), 1);
        int[][] refused = {{2, 2, 0}, {3, 2, 0}, {-1, 2, 0}, {0, 5, 0}, {0, 2, -1}, {0, 2, 2}, {FAR, FAR, 0}};
        for (int i = 0; i < refused.length; i++) {
            int[] r = refused[i];
            due("refused " + i, x.rate(r[0], r[1], r[2]), INVALID);
        }
        x.addAsh(1, 9, 0);
        due("rate(0, 4, 0) without a count", x.rate(0, 4, 0), NONE);
        due("rate(0, 4, 2) without a count", x.rate(0, 4, 2), INVALID);
        due("rate(0, 0, 0) of none", new VarveClock().rate(0, 0, 0), INVALID);
    }

    private static void bound() {
        part = "promise 20";
        VarveClock x = laid("faint 1;thick 1;gap 5;layer 1;");
        due("bound(3, 0, 0)", x.bound(3, 0, 0), 3);
        due("bound(3, 0, 1)", x.bound(3, 0, 1), 3);
        due("bound(3, 2, 1)", x.bound(3, 2, 1), 3);
        due("bound(3, 3, 1)", x.bound(3, 3, 1), 4);
        due("bound(3, 3, 0)", x.bound(3, 3, 0), 3);
        due("bound(3, 4, 0)", x.bound(3, 4, 0), 2);
        due("bound(2, 7, 1)", x.bound(2, 7, 1), 4);
        due("bound(2, 8, 1)", x.bound(2, 8, 1), 4);
        due("bound(2, 9, 1)", x.bound(2, 9, 1), 5);
        due("bound(1, 200, 1)", x.bound(1, 200, 1), 1);
        due("bound(1, 200, 0)", x.bound(1, 200, 0), 0);
        due("bound(0, 200, 1)", x.bound(0, 200, 1), 0);
        due("bound(3, 200, 1)", x.bound(3, 200, 1), 9);
        due("bound(3, 19, 1)", x.bound(3, 19, 1), 8);
        due("bound(3, 20, 1)", x.bound(3, 20, 1), 9);
        due("no other age", clearCore(3).bound(3, 200, 0), 3);
        due("no other age", clearCore(3).bound(3, 200, 1), 3);
        x.addAsh(3, 5, 1);
        due("cost()", x.cost(), 5);
        due("bound(3, 1, 1)", x.bound(3, 1, 1), 5);
        due("bound(3, 1, 0)", x.bound(3, 1, 0), 4);
        due("bound(3, 200, 1)", x.bound(3, 200, 1), 6);
        due("bound(3, 200, 0)", x.bound(3, 200, 0), 4);
        due("bound(2, 200, 0)", x.bound(2, 200, 0), 3);
        int[][] refused = {{-1, 0, 0}, {4, 0, 0}, {0, -1, 0}, {0, 201, 0}, {0, 0, -1}, {0, 0, 2}};
        for (int i = 0; i < refused.length; i++) {
            int[] r = refused[i];
            due("refused " + i, x.bound(r[0], r[1], r[2]), INVALID);
        }
        due("nothing changes", x.cost(), 5);
        x.addAsh(1, 9, 0);
        due("bound(0, 0, 0) without a count", x.bound(0, 0, 0), NONE);
        due("bound(0, 0, 2) without a count", x.bound(0, 0, 2), INVALID);
    }

    private static void without() {
        part = "promise 21";
        VarveClock x = laid("faint 1;ash 0 0;layer 1;gap 9;ash 5 2;layer 1;ash 9 0;");
        due("cost()", x.cost(), NONE);
        due("without(0)", x.without(0), NONE);
        due("without(1)", x.without(1), 4 + 7 * 3);
        due("without(2)", x.without(2), 4 + 2 * 3 + 2 * 2);
        x.setLayer(2, 2, 1);
        due("cost()", x.cost(), 4 + 7 * 3 + 2 * 2);
        due("without(0)", x.without(0), 6 * 3 + 2 * 2);
        due("without(1)", x.without(1), 4 + 7 * 3);
        due("without(3)", x.without(3), INVALID);
        due("without(-1)", x.without(-1), INVALID);
        due("count(1)", x.count(1), 3);
        due("without(0) of none", clearCore(2).without(0), INVALID);
        due("the place can be 0 years old", laid("faint 1;ash 1 0;layer 1;ash 1 0;").without(0), 4);
        VarveClock one = laid("layer 1;ash 9 0;");
        due("without the one ash", one.without(0), 0);
        due("nothing changes", one.cost(), NONE);
    }

    private static void widen() {
        part = "promise 22";
        due("a count", laid("layer 1;ash 9 8;").widen(), 0);
        due("one more", laid("layer 1;ash 9 7;").widen(), 1);
        due("the other side", laid("layer 1;layer 1;layer 1;ash 1 0;").widen(), 2);
        due("between ashes", laid("layer 1;gap 20;ash 9 0;layer 1;ash 5 0;").widen(), 3);
        due("an empty core", new VarveClock().widen(), 0);
        due("the greatest one", laid("faint 1;ash 500 0;").widen(), 499);
        VarveClock x = laid("faint 1;ash 0 0;");
        x.addAsh(1, 500, 0);
        x.removeAsh(0);
        x.addAsh(1, 500, 0);
        due("widen()", x.widen(), 499);
        due("nothing changes", x.ash(0, 2), 0);
        VarveClock far = laid("faint 1;ash 0 0;layer 1;ash 500 9;");
        due("two ashes", far.widen(), 489);
        far.setLayer(1, 2, 20);
        due("with missing years", far.widen(), 469);
        VarveClock tied = laid("layer 1;ash 500 0;layer 1;ash 0 0;");
        due("no other age", tied.widen(), 499);
    }

    private static void costWith() {
        part = "promise 23";
        VarveClock x = laid("faint 1;layer 1;gap 9;layer 1;ash 3 1;");
        due("costWith(1, 0, 0)", x.costWith(1, 0, 0), 6);
        due("costWith(1, 0, 1)", x.costWith(1, 0, 1), 2);
        due("costWith(2, 5, 3)", x.costWith(2, 5, 3), 6);
        due("costWith(2, 5, 2)", x.costWith(2, 5, 2), 2 * 2 + 3 + 2);
        due("costWith(2, 5, 1)", x.costWith(2, 5, 1), NONE);
        due("costWith(2, 500, 9)", x.costWith(2, 500, 9), NONE);
        due("costWith(3, 3, 0)", x.costWith(3, 3, 0), IMPOSSIBLE);
        due("costWith(3, 3, 10)", x.costWith(3, 3, 10), INVALID);
        due("costWith(0, 0, 0)", x.costWith(0, 0, 0), INVALID);
        due("costWith(4, 0, 0)", x.costWith(4, 0, 0), INVALID);
        due("costWith(1, -1, 0)", x.costWith(1, -1, 0), INVALID);
        due("costWith(1, 501, 0)", x.costWith(1, 501, 0), INVALID);
        due("costWith(1, 0, -1)", x.costWith(1, 0, -1), INVALID);
        due("nothing changes", x.count(1), 1);
        due("nothing changes", x.cost(), 0);
        x.removeAsh(0);
        x.addAsh(3, 99, 0);
        due("no count anyway", x.costWith(1, 1, 0), NONE);
        due("no count, an ash there", x.costWith(3, 1, 0), IMPOSSIBLE);
        VarveClock full = clearCore(8);
        for (int place = 1; place <= 6; place++) {
            full.addAsh(place, place, 0);
        }
        due("with 6 ashes", full.costWith(7, 9, 2), 4);
        due("with 6 ashes, at one", full.costWith(6, 9, 2), IMPOSSIBLE);
    }

    private static void type() {
        part = "promise 24";
        VarveClock x = new VarveClock();
        due("type(31)", x.type(31), INVALID);
        due("type(127)", x.type(127), INVALID);
        due("type(-1)", x.type(-1), INVALID);
        due("type(65536 + 32)", x.type(65536 + 32), INVALID);
        due("type(32)", x.type(32), 1);
        due("type(126)", x.type(126), 2);
        for (int length = 3; length <= 90; length++) {
            due("type('a')", x.type('a'), length);
        }
        due("a 91st", x.type('a'), LIMIT);
        due("a 91st that is wrong", x.type(31), INVALID);
        due("clearText()", x.clearText(), 90);
        write(x, "layer 5;");
        due("what was typed", x.lay(), 1);
        due("count(9), no change", x.count(9), 1);
    }

    private static void clearText() {
        part = "promise 25";
        VarveClock x = new VarveClock();
        due("clearText()", x.clearText(), 0);
        x.type('a');
        x.type('b');
        due("clearText()", x.clearText(), 2);
        due("clearText()", x.clearText(), 0);
        due("fault()", x.fault(), NONE);
        due("type()", x.type('c'), 1);
        due("fault()", x.fault(), 0);
    }

    private static void dueFault(String text, int want) {
        VarveClock x = new VarveClock();
        write(x, text);
        due("fault of '" + text + "'", x.fault(), want);
        int laid = x.lay();
        due("lay of '" + text + "'", laid < 0 ? laid : 0, want == NONE ? 0 : IMPOSSIBLE);
    }

    private static void fault() {
        part = "promise 26";
        dueFault("", NONE);
        dueFault("layer 1;", NONE);
        dueFault("layer 1;faint 2;thick 3;gap 4;ash 5 6;", NONE);
        dueFault("layer 1;gap 4;gap 5;ash 5 6;gap 7;", NONE);
        dueFault("layer 1;layer 2", 8);
        dueFault("layer 1;layer 2;x", 16);
        dueFault("layer 1;x;layer 1", 8);
        dueFault("gap 1;", 0);
        dueFault("ash 1 1;", 0);
        dueFault("layer 1;ash 1 1;ash 2 2;", 16);
        dueFault("layer 1;ash 1 1;gap 3;ash 2 2;", 22);
        dueFault("layer 1;ash 1 1;layer 1;ash 2 2;", NONE);
        dueFault("layer 1;ash 1 1;layer 1;ash 2 2;layer 1;ash 3 3;layer 1;ash 4 4;layer 1;ash 5 5;", NONE);
        dueFault("layer 1;layer 1;layer 1;layer 1;layer 1;layer 1;layer 1;layer 1;layer 1;layer 1;layer 1;ab", 88);
        dueFault("layer 1;layer 1;layer 1;layer 1;layer 1;layer 1;layer 1;layer 1;layer 1;layer 1;layer 99;", NONE);
        VarveClock core = clearCore(3);
        write(core, "gap 1;");
        due("the core does not matter", core.fault(), 0);
    }

    private static void faultOfForms() {
        part = "promise 26, forms";
        String[] wrongOnes = {";", " ", "l", "layer", "layer ", "layer 1", "layer;", "layer ;", "layer  1;",
            "layer 1 ;", " layer 1;", "Layer 1;", "layer1;", "layer 1;;", "layers 1;", "layer -1;", "layer +1;",
            "layer 1a;", "layer a;", "layer 0001;", "layer 1 1;", "faint 1 1;", "faintly 1;", "thick 1:", "gap", "ash 1;",
            "ash 1 ;", "ash 1  1;", "ash 1 1 ;", "ash 1 1 1;", "ash  1 1;", "ash 1,1;", "ash ;", "ash 1 0001;", "ash 0001 1;",
            "layer 1/", "layer :;", "layer /;"};
        for (int i = 0; i < wrongOnes.length; i++) {
            int want = wrongOnes[i].equals("layer 1;;") ? 8 : 0;
            dueFault(wrongOnes[i], want);
            dueFault("thick 42;" + wrongOnes[i], 9 + want);
        }
        dueFault("layer 1; layer 1;", 8);
    }

    private static void faultOfRanges() {
        part = "promise 26, ranges";
        String[] rightOnes = {"layer 99;", "layer 001;", "faint 099;", "thick 1;", "layer 1;gap 0;", "layer 1;gap 20;",
            "layer 1;gap 020;", "layer 1;ash 0 0;", "layer 1;ash 500 9;", "layer 1;ash 000 009;", "layer 1;gap 000;"};
        for (int i = 0; i < rightOnes.length; i++) {
            dueFault(rightOnes[i], NONE);
        }
        String[] wrongOnes = {"layer 0;", "layer 000;", "layer 100;", "layer 999;", "faint 0;", "faint 100;", "thick 0;",
            "thick 100;", "gap 21;", "gap 999;", "ash 501 0;", "ash 999 0;", "ash 0 10;", "ash 0 999;", "ash 501 10;"};
        for (int i = 0; i < wrongOnes.length; i++) {
            dueFault("layer 1;" + wrongOnes[i], 8);
        }
    }

    private static void faultOfFullTexts() {
        part = "promise 26, full texts and older ones";
        String ten = "layer 1;layer 1;layer 1;layer 1;layer 1;layer 1;layer 1;layer 1;layer 1;layer 1;";
        String[] cut = {"la", "fa", "th", "ga", "as"};
        for (int i = 0; i < cut.length; i++) {
            dueFault(ten + "layer 1;" + cut[i], 88);
        }
        dueFault(ten.substring(0, 56) + "layer 12;layer 12;layer 12;layer 1", 83);
        dueFault(ten.substring(0, 48) + "layer 12;layer 12;layer 12;layer 1;ash 123", 83);
        dueFault(ten + "ash 123 45", 80);
        dueFault(ten + "ash 5 005;", NONE);
        String[] older = {"layer 55;", "layer 55;", "layer 5;gap 5;", "layer 5;ash 5 5;", "layer 5;ash 5 5;"};
        String[] newer = {"layer 55", "layer 5", "layer 5;ga", "layer 5;ash 5 5", "layer 5;ash 5"};
        for (int i = 0; i < older.length; i++) {
            VarveClock x = new VarveClock();
            write(x, older[i]);
            due("fault of " + older[i], x.fault(), NONE);
            write(x, newer[i]);
            due("fault of " + newer[i] + " then", x.fault(), i < 2 ? 0 : 8);
        }
        VarveClock again = new VarveClock();
        write(again, "layer 5;gap 5;x");
        due("a fault", again.fault(), 14);
        due("the same fault", again.fault(), 14);
        write(again, "gap 5;");
        due("no layer of an earlier reading", again.fault(), 0);
    }

    private static void fullCore() {
        part = "a full core";
        VarveClock x = new VarveClock();
        for (int i = 0; i < 50; i++) {
            x.addLayer(i, 99, i % 3, 20);
        }
        for (int i = 0; i < 6; i++) {
            x.addAsh(5 + 9 * i, 10 + 20 * i, 3);
        }
        due("count(2)", x.count(2), 4950);
        due("count(3)", x.count(3), 17);
        due("count(4)", x.count(4), 16);
        due("cost()", x.cost(), (5 + 4 * 11 + 8) * 3 + 3 * 2);
        due("age(50)", x.age(50), 107);
        int[] totals = {0, 0, 57, 3, 107};
        for (int what = 0; what < totals.length; what++) {
            due("total(" + what + ")", x.total(what), totals[what]);
        }
        due("offset(5)", x.offset(5), 97);
        due("removeLayer(49)", x.removeLayer(49), 49);
        due("count(1), the lowest one moves up", x.count(1), 6);
        dueAsh(x, 5, 49, 110, 3);
        due("addLayer(0)", x.addLayer(0, 1, 0, 0), 50);
        dueAsh(x, 5, 50, 110, 3);
        dueAsh(x, 0, 6, 10, 3);
        due("removeAsh(5)", x.removeAsh(5), 5);
        due("removeAsh(0)", x.removeAsh(0), 4);
        due("widen()", x.widen(), 0);
        due("bound(50, 200, 1) is more", x.bound(50, 200, 1) > x.age(50) ? 1 : 0, 1);
    }

    /** No call may throw, whatever its arguments are. */
    private static void endlessArguments() {
        part = "arguments far off";
        int[] far = {DEEP, DEEP + 1, -2, -1, 51, 501, 601, FAR - 1, FAR};
        VarveClock x = clearCore(50);
        x.addAsh(50, 50, 0);
        for (int i = 0; i < far.length; i++) {
            int n = far[i];
            int[] got = {x.addLayer(n, 1, 1, 1), x.removeLayer(n), x.setLayer(n, 0, 1), x.addAsh(n, 1, 1),
                x.addAsh(1, n == 51 ? n + 600 : n, 1), x.addAsh(1, 1, n), x.removeAsh(n), x.set(n, 1), x.set(1, n), x.count(n),
                x.layer(n, 1), x.layer(1, n), x.ash(n, 1), x.ash(0, n), x.years(n, 0), x.years(0, n), x.age(n),
                x.offset(n), x.total(n), x.rate(n, 5, 0), x.rate(0, n, 0), x.rate(0, 1, n), x.bound(n, 1, 1),
                x.bound(1, n == 51 ? n + 600 : n, 1), x.bound(1, 1, n), x.without(n), x.costWith(n, 1, 1),
                x.costWith(1, n == 51 ? n + 600 : n, 1), x.costWith(1, 1, n), x.type(n == 51 ? n + 600 : n)};
            for (int call = 0; call < got.length; call++) {
                due("call " + call + " with " + n, got[call], INVALID);
            }
        }
        due("count(9)", x.count(9), 6);
        due("cost()", x.cost(), 0);
    }
}
