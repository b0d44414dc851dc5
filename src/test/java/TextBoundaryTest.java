/** The sentences of 'Texts', and promises 8 and 24 to 26, each at its boundary. */
public final class TextBoundaryTest {
    private static final int INVALID = Subject.INVALID;
    private static final int IMPOSSIBLE = Subject.IMPOSSIBLE;
    private static final int LIMIT = Subject.LIMIT;
    private static final int NONE = Subject.NONE;

    public static void main(String[] args) {
        initiallyEmpty();
        mostCharacters();
        characters();
        fullTexts();
        clearText();
        layerCommands();
        gapCommands();
        ashCommands();
        semicolons();
        digits();
        zerosAhead();
        blanks();
        words();
        ranges();
        notPossible();
        firstFault();
        mostOfAText();
        layReplaces();
        layRefused();
        textStays();
        Subject.finish();
    }

    /** The fault is due, and lay does accordingly. */
    private static void dueFault(String text, int want) {
        Subject x = Subject.core("thick 9;gap 1;ash 3 3").writes(text);
        x.asked("fault", want);
        if (want == NONE) {
            x.does("lay");
        } else {
            x.refused("lay", IMPOSSIBLE);
        }
    }

    /** A command that is right at the top of a core, or below a layer. */
    private static void right(String command) {
        dueFault(command, NONE);
        dueFault("layer 1;" + command, NONE);
        dueFault("layer 1;" + command + "layer 1", 8 + command.length());
    }

    private static void rightBelowLayer(String command) {
        dueFault("layer 1;" + command, NONE);
        dueFault("layer 1;" + command + "layer 1", 8 + command.length());
        dueFault(command, 0);
    }

    private static void wrong(String command) {
        dueFault(command, 0);
        dueFault("layer 1;" + command, 8);
        dueFault("layer 1;gap 2;" + command + "layer 1;", 14);
    }

    /** The core that a text tells is the one that the same calls make. */
    private static void dueLaid(String text, int layers) {
        Subject x = Subject.core("thick 9;gap 1;ash 3 3;thick 9;gap 1;ash 3 3").writes(text);
        x.asked("fault", NONE);
        x.due("lay", layers);
        x.dueCoreOf(Subject.core(text));
    }

    private static void initiallyEmpty() {
        Subject.sentence("Texts: initially empty; promise 26: an empty text has no fault");
        Subject x = Subject.fresh();
        x.asked("fault", NONE);
        x.due("clearText", 0);
        x.due("type 97", 1);
        x.asked("fault", 0);
        Subject.sentence("promise 8: an empty text makes an empty core");
        Subject full = Subject.core("layer 5;ash 1 0;faint 6");
        full.due("lay", 0);
        full.dueCoreOf(Subject.fresh());
        full.due("count 9", 4);
        Subject.fresh().due("lay", 0).due("count 9", 1);
    }

    private static void mostCharacters() {
        Subject.sentence("Texts: at most 90 characters");
        Subject x = Subject.fresh();
        for (int length = 1; length <= 89; length++) {
            x.due("type " + (32 + length), length);
        }
        x.due("type 32", 90);
        x.refused("type 97", LIMIT);
        x.refused("type 32", LIMIT);
        x.refused("type 126", LIMIT);
        x.refused("type 59", LIMIT);
        Subject.sentence("Changes and errors: INVALID_ARGUMENT rather than LIMIT_REACHED");
        x.refused("type 31", INVALID);
        x.refused("type 127", INVALID);
        Subject.sentence("promise 25: empties the text, which takes characters again");
        x.due("clearText", 90);
        x.due("type 97", 1);
        x.due("clearText", 1);
        x.due("clearText", 0);
    }

    private static void characters() {
        Subject.sentence("promise 24: character 32 to 126");
        Subject x = Subject.fresh();
        x.refused("type 31", INVALID);
        x.refused("type 127", INVALID);
        x.refused("type 0", INVALID);
        x.refused("type -1", INVALID);
        x.refused("type -32", INVALID);
        x.refused("type 65634", INVALID);
        x.due("type 32", 1);
        x.due("type 126", 2);
        x.refused("type 31", INVALID);
        x.due("type 33", 3);
        x.due("type 125", 4);
        x.due("clearText", 4);
        Subject.sentence("promise 24: a refused character is not in the text");
        x.writes("layer 5");
        x.refused("type 127", INVALID);
        x.writes(";");
        x.asked("fault", NONE);
        x.due("lay", 1);
    }

    private static void fullTexts() {
        Subject.sentence("Texts: 90 characters are read to the last one");
        String nine = "layer 1;".repeat(9);
        dueLaid(nine + "layer 12;layer 13;", 11);
        dueFault(nine + "layer 12;layer 13", 81);
        dueFault(nine + "layer 12;layer 123", 81);
        dueLaid(nine + "ash 130 2;gap 015;", 9);
        dueFault(nine + "ash 130 2;gap 021;", 82);
        dueFault(nine + "gap 015;ash 130 2", 80);
        dueLaid(nine + "layer 1;ash 12 4;", 10);
        String eleven = nine + "layer 1;layer 1;";
        dueLaid(eleven, 11);
        String[] begun = {"l", "la", "f", "fa", "t", "th", "g", "ga", "a", "as", ";", ";;", "9", "9;", " ", "  ", "1;"};
        for (String rest : begun) {
            dueFault(eleven + rest, 88);
        }
        dueFault(nine + "layer 1;ash 12 43", 80);
        dueFault(nine + "layer 1;ash 12 ", 80);
        dueFault(nine + "layer 1;ash 123456", 80);
        dueFault(nine + "layer 1;ash 123 45", 80);
        dueFault("#".repeat(90), 0);
        dueFault(nine + "#".repeat(18), 72);
    }

    private static void clearText() {
        Subject.sentence("promise 25: returns the length it had");
        for (String text : new String[] {"", "a", "layer 1;", "layer 1;".repeat(11), "a".repeat(90)}) {
            Subject x = Subject.core("layer 5").writes(text);
            x.due("clearText", text.length());
            x.asked("fault", NONE);
            x.dueAllOf(Subject.core("layer 5"));
            x.due("clearText", 0);
        }
        Subject.sentence("promise 25: nothing of the old text is read afterwards");
        Subject old = Subject.fresh().writes("layer 55;gap 7;ash 50 5;").does("lay", "clearText").writes("layer 5");
        old.asked("fault", 0);
        old.refused("lay", IMPOSSIBLE);
        old.writes(";");
        old.due("lay", 1);
        old.dueCoreOf(Subject.core("layer 5"));
        old.does("clearText").writes("gap 3;");
        old.asked("fault", 0);
        old.does("clearText").writes("ash 3 3;");
        old.asked("fault", 0);
    }

    private static void layerCommands() {
        Subject.sentence("Texts: layer, faint and thick add a layer at the bottom, without missing years");
        dueLaid("layer 7;", 1);
        dueLaid("faint 7;", 1);
        dueLaid("thick 7;", 1);
        dueLaid("thick 1;faint 99;layer 50;thick 2;faint 3;layer 4;", 6);
        Subject x = Subject.core("layer 5;gap 20;layer 6;gap 20").writes("layer 5;thick 6;").does("lay");
        x.dueLayer(0, 5, 0, 0).dueLayer(1, 6, 2, 0);
    }

    private static void gapCommands() {
        Subject.sentence("Texts: gap belongs to the last layer so far");
        dueLaid("layer 7;gap 3;", 1);
        dueLaid("layer 7;layer 8;gap 3;layer 9;", 3);
        dueLaid("layer 7;gap 0;layer 8;gap 20;", 2);
        dueLaid("layer 7;ash 5 5;gap 3;layer 8;", 2);
        Subject.sentence("Texts: of several gaps behind a layer the last one counts");
        dueLaid("layer 7;gap 3;gap 9;", 1);
        dueLaid("layer 7;gap 9;gap 3;", 1);
        dueLaid("layer 7;gap 20;gap 0;layer 8;gap 0;gap 20;", 2);
        dueLaid("layer 7;gap 1;gap 2;gap 3;gap 4;gap 5;gap 6;gap 7;gap 8;gap 9;gap 8;gap 7;gap 6;", 1);
        dueLaid("layer 7;gap 3;ash 4 4;gap 5;layer 8;", 2);
        Subject x = Subject.fresh().writes("layer 7;gap 20;gap 0;").does("lay");
        x.dueLayer(0, 7, 0, 0);
    }

    private static void ashCommands() {
        Subject.sentence("Texts: ash lies at the bottom so far");
        dueLaid("layer 7;ash 0 0;", 1);
        dueLaid("layer 7;layer 8;ash 500 9;", 2);
        dueLaid("layer 7;layer 8;ash 5 1;layer 9;", 3);
        dueLaid("layer 7;ash 1 1;layer 8;ash 2 2;layer 9;ash 3 3;layer 1;ash 4 4;layer 2;ash 5 5;", 5);
        Subject x = Subject.fresh().writes("layer 7;layer 8;ash 123 4;layer 9;").does("lay");
        x.dueAsh(0, 2, 123, 4);
        x.due("count 1", 1);
    }

    private static void semicolons() {
        Subject.sentence("Texts: commands, each followed by ;");
        dueFault(";", 0);
        dueFault("layer 1", 0);
        dueFault("layer 1;;", 8);
        dueFault(";layer 1;", 0);
        dueFault("layer 1:", 0);
        dueFault("layer 1,layer 2;", 0);
        dueFault("layer 1;layer 2", 8);
        dueFault("layer 1;gap 2", 8);
        dueFault("layer 1;ash 2 2", 8);
        dueFault("layer 1 ;", 0);
        dueFault("layer 1layer 2;", 0);
        dueFault("layer;1", 0);
    }

    private static void digits() {
        Subject.sentence("Texts: numbers have 1 to 3 digits");
        String[] heads = {"layer ", "faint ", "thick ", "gap ", "ash ", "ash 5 "};
        String[] tails = {";", ";", ";", ";", " 5;", ";"};
        for (int i = 0; i < heads.length; i++) {
            rightOrBelow(i, heads[i] + "1" + tails[i]);
            rightOrBelow(i, heads[i] + "01" + tails[i]);
            rightOrBelow(i, heads[i] + "001" + tails[i]);
            wrong(heads[i] + tails[i]);
            wrong(heads[i] + "0001" + tails[i]);
            wrong(heads[i] + "0010" + tails[i]);
            wrong(heads[i] + "1000" + tails[i]);
            wrong(heads[i] + "x" + tails[i]);
            wrong(heads[i] + "1x" + tails[i]);
            wrong(heads[i] + "-1" + tails[i]);
            wrong(heads[i] + "+1" + tails[i]);
            wrong(heads[i] + "1.0" + tails[i]);
            wrong(heads[i] + "/" + tails[i]);
            wrong(heads[i] + ":" + tails[i]);
            wrong(heads[i] + "1/" + tails[i]);
            wrong(heads[i] + "1:" + tails[i]);
        }
        wrong("ash 5;");
        wrong("ash 55;");
        wrong("ash 1235;");
        wrong("ash 0005;");
        wrong("ash 12345;");
        wrong("ash 5 5 5;");
        wrong("layer 5 5;");
        wrong("gap 5 5;");
    }

    /** The first three commands need no layer before them. */
    private static void rightOrBelow(int command, String words) {
        if (command < 3) {
            right(words);
        } else {
            rightBelowLayer(words);
        }
    }

    private static void zerosAhead() {
        Subject.sentence("Texts: zeros may stand ahead");
        Subject x = Subject.fresh().writes("layer 007;faint 08;thick 099;gap 004;ash 009 002;").does("lay");
        x.dueCoreOf(Subject.core("layer 7;faint 8;thick 99;gap 4;ash 9 2"));
        Subject octal = Subject.fresh().writes("layer 010;gap 010;ash 010 000;").does("lay");
        octal.dueCoreOf(Subject.core("layer 10;gap 10;ash 10 0"));
        Subject zero = Subject.fresh().writes("layer 1;gap 000;ash 000 000;").does("lay");
        zero.dueCoreOf(Subject.core("layer 1;ash 0 0"));
        wrong("layer 000;");
        wrong("layer 00;");
    }

    private static void blanks() {
        Subject.sentence("Texts: there are no other blanks");
        wrong(" layer 1;");
        wrong("layer  1;");
        wrong("layer 1 ;");
        wrong("layer1;");
        wrong("lay er 1;");
        wrong("layer 1 0;");
        wrong(" gap 1;");
        wrong("gap  1;");
        wrong("gap 1 ;");
        wrong("gap1;");
        wrong(" ash 1 1;");
        wrong("ash  1 1;");
        wrong("ash 1  1;");
        wrong("ash 1 1 ;");
        wrong("ash1 1;");
        wrong("ash 11;");
        wrong(" ;");
        dueFault("layer 1; ", 8);
        dueFault("layer 1; layer 1;", 8);
        dueFault(" ", 0);
    }

    private static void words() {
        Subject.sentence("Texts: the words are these, in small letters");
        String[] wrongOnes = {"Layer 1;", "LAYER 1;", "layers 1;", "laye 1;", "ayer 1;", "clear 1;", "fain 1;", "faints 1;",
            "Faint 1;", "thic 1;", "thicker 1;", "Thick 1;", "ga 1;", "gaps 1;", "Gap 1;", "as 1 1;", "asht 1 1;", "Ash 1 1;",
            "layfr 1;", "fainu 1;", "thicj 1;", "gaq 1;", "asg 1 1;", "mayer 1;", "gaint 1;", "shick 1;", "hap 1;", "bsh 1 1;",
            "layer", "layer ", "faint", "thick ", "gap", "gap ", "ash", "ash ", "ash 1", "ash 1 ", "1;", "x", "layer_1;", "gap_1;",
            "ash_1 1;", "ash 1_1;", "ash 1;1;"};
        for (String words : wrongOnes) {
            dueFault(words, 0);
            dueFault("faint 1;" + words, 8);
        }
    }

    private static void ranges() {
        Subject.sentence("Texts: a number out of range: thickness 1 to 99");
        for (String kind : new String[] {"layer ", "faint ", "thick "}) {
            wrong(kind + "0;");
            right(kind + "1;");
            right(kind + "99;");
            wrong(kind + "100;");
            wrong(kind + "999;");
        }
        Subject.sentence("Texts: a number out of range: missing years 0 to 20");
        rightBelowLayer("gap 0;");
        rightBelowLayer("gap 20;");
        wrong("gap 21;");
        wrong("gap 999;");
        Subject.sentence("Texts: a number out of range: age 0 to 500");
        rightBelowLayer("ash 0 5;");
        rightBelowLayer("ash 500 5;");
        wrong("ash 501 5;");
        wrong("ash 999 5;");
        Subject.sentence("Texts: a number out of range: uncertainty 0 to 9");
        rightBelowLayer("ash 5 0;");
        rightBelowLayer("ash 5 9;");
        wrong("ash 5 10;");
        wrong("ash 5 999;");
        wrong("ash 501 10;");
        dueLaid("layer 1;faint 99;gap 20;thick 1;gap 0;ash 500 9;layer 99;ash 0 0;", 4);
    }

    private static void notPossible() {
        Subject.sentence("Texts: not possible: gap or ash without a layer before it");
        dueFault("gap 1;", 0);
        dueFault("ash 1 1;", 0);
        dueFault("gap 1;layer 1;", 0);
        dueFault("ash 1 1;layer 1;", 0);
        dueFault("layer 1;gap 1;", NONE);
        dueFault("layer 1;ash 1 1;", NONE);
        Subject.sentence("Texts: not possible: a second ash at a place");
        dueFault("layer 1;ash 1 1;ash 1 1;", 16);
        dueFault("layer 1;ash 1 1;gap 2;ash 2 2;", 22);
        dueFault("layer 1;ash 1 1;layer 1;ash 2 2;", NONE);
        dueFault("layer 1;ash 1 1;layer 1;ash 2 2;ash 3 3;", 32);
        Subject.sentence("Texts: the layers and ashes of the core itself do not matter");
        Subject x = Subject.core(50, "layer #");
        for (int place = 1; place <= 6; place++) {
            x.does("addAsh " + place + " " + place + " 0");
        }
        x.writes("gap 1;");
        x.asked("fault", 0);
        x.does("clearText").writes("ash 1 1;").asked("fault", 0);
        x.does("clearText").writes("layer 1;ash 1 1;layer 2;").asked("fault", NONE);
        x.due("lay", 2);
        x.dueCoreOf(Subject.core("layer 1;ash 1 1;layer 2"));
    }

    private static void firstFault() {
        Subject.sentence("Texts: the fault is the position, from 0, of the first wrong command's first character");
        dueFault("x", 0);
        dueFault("layer 1;x", 8);
        dueFault("layer 12;x", 9);
        dueFault("layer 123;x", 0);
        dueFault("layer 1;x;y;", 8);
        dueFault("layer 1;gap 21;ash 501 0;", 8);
        dueFault("layer 1;ash 501 0;gap 21;", 8);
        dueFault("layer 1;gap 20;ash 501 0;", 15);
        dueFault("layer 1;gap 20;ash 500 0;x", 25);
        dueFault("layer 1;gap 20;ash 500 0;ash 1 1;x", 25);
        dueFault("layer 0;layer 0;", 0);
        Subject.sentence("promise 26: while a text is typed");
        Subject x = Subject.fresh();
        String text = "layer 7;gap 3;ash 2 1;";
        int[] ends = {8, 14, 22};
        int start = 0;
        for (int i = 0; i < text.length(); i++) {
            x.writes(text.substring(i, i + 1));
            boolean isEnd = i + 1 == ends[0] || i + 1 == ends[1] || i + 1 == ends[2];
            x.asked("fault", isEnd ? NONE : start);
            start = isEnd ? i + 1 : start;
        }
        x.due("lay", 1);
    }

    /** A 51st layer and a 7th ash need more than 90 characters; this is the most that a text can tell. */
    private static void mostOfAText() {
        Subject.sentence("Texts: the most layers and the most ashes of a text");
        dueLaid("layer 1;".repeat(11), 11);
        dueLaid("layer 1;ash 1 1;".repeat(5), 5);
        dueLaid("layer 1;ash 1 1;".repeat(5) + "layer 99;", 6);
        dueFault("layer 1;ash 1 1;".repeat(5) + "layer 1;as", 88);
    }

    private static void layReplaces() {
        Subject.sentence("promise 8: replaces layers and ashes, the text and the settings stay");
        Subject x = Subject.core(50, "thick #;gap 20").does("set 0 9", "set 1 10", "set 2 11", "set 3 12");
        for (int place = 45; place <= 50; place++) {
            x.does("addAsh " + place + " 400 9");
        }
        x.writes("faint 7;gap 2;ash 2 1;layer 8;");
        x.due("lay", 2);
        Subject want = Subject.core("faint 7;gap 2;ash 2 1;layer 8").does("set 0 9", "set 1 10", "set 2 11", "set 3 12");
        x.dueCoreOf(want);
        x.asked("fault", NONE);
        x.does("setLayer 0 0 99", "removeAsh 0", "removeLayer 1", "addLayer 0 5 0 20");
        x.due("lay", 2);
        x.dueCoreOf(want);
        x.due("clearText", 30);
        Subject.sentence("promise 8: shorter and longer cores one after another");
        x.writes("layer 1;".repeat(11));
        x.due("lay", 11);
        x.due("count 1", 0);
        x.does("clearText").writes("layer 1;");
        x.due("lay", 1);
        x.refused("layer 1 0", INVALID);
        x.refused("ash 0 0", INVALID);
    }

    private static void layRefused() {
        Subject.sentence("promise 8: NOT_POSSIBLE if the text has a fault, and nothing changes");
        String[] faulty = {"x", "layer 1", "layer 0;", "gap 1;", "layer 1;layer 2;ash 1 1;ash 1 1;", "layer 1;gap 21;"};
        for (String text : faulty) {
            Subject x = Subject.core("faint 7;gap 2;ash 2 1;layer 8").does("set 0 9").writes(text);
            x.refused("lay", IMPOSSIBLE);
            x.dueCoreOf(Subject.core("faint 7;gap 2;ash 2 1;layer 8").does("set 0 9"));
            x.due("count 9", 4);
            x.due("clearText", text.length());
        }
    }

    private static void textStays() {
        Subject.sentence("Texts: the text is none of what changes and undo touch");
        Subject x = Subject.core("layer 5;layer 6").writes("faint 7;ga");
        x.does("addAsh 1 1 1", "set 0 5", "undo", "undo", "removeLayer 0", "setLayer 0 0 9");
        x.asked("fault", 8);
        x.writes("p 4;");
        x.asked("fault", NONE);
        x.due("lay", 1);
        x.due("undo", 4);
        x.asked("fault", NONE);
        x.due("clearText", 14);
        x.due("count 9", 4);
        Subject.sentence("Changes and errors: type and clearText are no changes");
        Subject y = Subject.core("layer 5").writes("layer 1;").does("clearText").writes("x");
        y.due("count 9", 1);
    }
}
