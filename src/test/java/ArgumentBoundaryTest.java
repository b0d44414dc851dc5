/**
 * The range of each argument of each promise: both its ends are taken, the numbers just outside it are
 * INVALID_ARGUMENT and change nothing. This on an ordinary clock, on one that has no count (where
 * NOT_FOUND must not come first), and on one where everything is full (where neither NOT_POSSIBLE nor
 * LIMIT_REACHED may).
 */
public final class ArgumentBoundaryTest {
    public static void main(String[] args) {
        ordinary();
        withoutCount();
        full();
        ofTheTopLayer();
        empty();
        Subject.finish();
    }

    private static void ordinary() {
        Subject x = Subject.core("layer 5;faint 6;gap 2;ash 3 1;thick 7;gap 9;layer 8;ash 8 2").writes("layer 5;");
        all("an ordinary clock", x, 4, 2, 3);
    }

    private static void withoutCount() {
        Subject x = Subject.core("layer 5;faint 6;ash 9 0;thick 7;layer 8;layer 8;ash 400 9;").writes("gap 5;");
        x.due("cost", Subject.NONE);
        all("no count", x, 5, 2, 3);
    }

    private static void full() {
        Subject x = Subject.core(50, "thick #;gap 20");
        for (int place = 1; place <= 6; place++) {
            x.does("addAsh " + place + " " + 3 * place + " 0");
        }
        x.writes("layer 12;".repeat(10));
        x.due("count 0", 50);
        x.due("count 1", 6);
        x.due("count 9", 6);
        x.asked("type 97", Subject.LIMIT);
        all("all full", x, 50, 6, 6);
    }

    private static void all(String which, Subject x, int layers, int ashes, int place) {
        coreCalls(which, x, layers, ashes, place);
        simpleCalls(which, x, layers, ashes);
        bestCountCalls(which, x, layers, ashes);
        otherCountCalls(which, x, layers, ashes, place);
    }

    private static void range(Subject x, String call, int least, int most) {
        x.takenInside(call, least, most);
        x.refusedOutside(call, least, most);
    }

    private static void coreCalls(String which, Subject x, int layers, int ashes, int place) {
        Subject.sentence("promise 2, arguments, " + which);
        range(x, "addLayer # 5 0 0", 0, layers);
        range(x, "addLayer 0 # 0 0", 1, 99);
        range(x, "addLayer 0 5 # 0", 0, 2);
        range(x, "addLayer 0 5 0 #", 0, 20);
        Subject.sentence("promise 3, arguments, " + which);
        range(x, "removeLayer #", 0, layers - 1);
        Subject.sentence("promise 4, arguments, " + which);
        range(x, "setLayer # 0 1", 0, layers - 1);
        range(x, "setLayer 1 # 1", 0, 2);
        range(x, "setLayer 1 0 #", 1, 99);
        range(x, "setLayer 1 1 #", 0, 2);
        range(x, "setLayer 1 2 #", 0, 20);
        Subject.sentence("promise 5, arguments, " + which);
        range(x, "addAsh # 3 1", 1, layers);
        range(x, "addAsh " + place + " # 1", 0, 500);
        range(x, "addAsh " + place + " 3 #", 0, 9);
        Subject.sentence("promise 6, arguments, " + which);
        range(x, "removeAsh #", 0, ashes - 1);
        Subject.sentence("promise 7, arguments, " + which);
        range(x, "set # 1", 0, 3);
        for (int what = 0; what <= 3; what++) {
            range(x, "set " + what + " #", 0, 50);
        }
    }

    private static void simpleCalls(String which, Subject x, int layers, int ashes) {
        Subject.sentence("promise 10, arguments, " + which);
        range(x, "count #", 0, 9);
        Subject.sentence("promise 11, arguments, " + which);
        range(x, "layer # 0", 0, layers - 1);
        range(x, "layer 0 #", 0, 2);
        Subject.sentence("promise 12, arguments, " + which);
        range(x, "ash # 0", 0, ashes - 1);
        range(x, "ash 0 #", 0, 2);
        Subject.sentence("promise 24, arguments, " + which);
        range(x, "type #", 32, 126);
        // Their last 8 and 16 binary digits are those of a letter.
        x.refused("type " + (256 + 'a'), Subject.INVALID);
        x.refused("type " + (65536 + 'a'), Subject.INVALID);
    }

    private static void bestCountCalls(String which, Subject x, int layers, int ashes) {
        Subject.sentence("promise 14, arguments, " + which);
        range(x, "years # 0", 0, layers - 1);
        range(x, "years # 1", 0, layers - 1);
        range(x, "years 0 #", 0, 1);
        Subject.sentence("promise 15, arguments, " + which);
        range(x, "age #", 0, layers);
        Subject.sentence("promise 16, arguments, " + which);
        range(x, "offset #", 0, ashes - 1);
        Subject.sentence("promise 17, arguments, " + which);
        range(x, "total #", 0, 4);
        Subject.sentence("promise 19, arguments, " + which);
        range(x, "rate # " + layers + " 0", 0, layers - 1);
        range(x, "rate 0 # 0", 1, layers);
        range(x, "rate 2 # 1", 3, layers);
        range(x, "rate 1 3 #", 0, 1);
        x.refused("rate " + layers + " " + (layers + 1) + " 0", Subject.INVALID);
        x.refused("rate -1 0 0", Subject.INVALID);
        x.refused("rate MIN MAX 0", Subject.INVALID);
        x.refused("rate MAX MIN 0", Subject.INVALID);
    }

    private static void otherCountCalls(String which, Subject x, int layers, int ashes, int place) {
        Subject.sentence("promise 20, arguments, " + which);
        range(x, "bound # 0 0", 0, layers);
        range(x, "bound # 200 1", 0, layers);
        range(x, "bound 1 # 0", 0, 200);
        range(x, "bound 1 # 1", 0, 200);
        range(x, "bound 1 5 #", 0, 1);
        Subject.sentence("promise 21, arguments, " + which);
        range(x, "without #", 0, ashes - 1);
        Subject.sentence("promise 23, arguments, " + which);
        range(x, "costWith # 3 1", 1, layers);
        range(x, "costWith " + place + " # 1", 0, 500);
        range(x, "costWith " + place + " 3 #", 0, 9);
    }

    /** One layer: the ranges of its number and of its places are as small as they can be. */
    private static void ofTheTopLayer() {
        Subject x = Subject.core("faint 5;gap 1;ash 1 1");
        Subject.sentence("one layer");
        range(x, "addLayer # 5 0 0", 0, 1);
        range(x, "removeLayer #", 0, 0);
        range(x, "setLayer # 0 1", 0, 0);
        range(x, "addAsh # 3 1", 1, 1);
        range(x, "removeAsh #", 0, 0);
        range(x, "layer # 0", 0, 0);
        range(x, "ash # 0", 0, 0);
        range(x, "years # 0", 0, 0);
        range(x, "age #", 0, 1);
        range(x, "offset #", 0, 0);
        range(x, "rate # 1 0", 0, 0);
        range(x, "rate 0 # 0", 1, 1);
        range(x, "bound # 0 0", 0, 1);
        range(x, "without #", 0, 0);
        range(x, "costWith # 3 1", 1, 1);
    }

    private static void empty() {
        Subject x = Subject.fresh();
        Subject.sentence("an empty core has the place 0, and no layer, no ash and no other place");
        range(x, "addLayer # 5 0 0", 0, 0);
        range(x, "age #", 0, 0);
        range(x, "bound # 0 0", 0, 0);
        String[] none = {"removeLayer #", "setLayer # 0 1", "addAsh # 3 1", "removeAsh #", "layer # 0", "ash # 0",
            "years # 0", "offset #", "rate 0 # 0", "rate # 0 0", "without #", "costWith # 3 1"};
        for (String call : none) {
            x.refusedOutside(call, 0, 0);
            x.refused(call.replace("#", "0"), Subject.INVALID);
        }
    }
}
