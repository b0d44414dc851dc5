import java.util.ArrayList;
import java.util.List;

/** The sentences of 'Changes and errors' and of 'What it is', and promise 9, each at its boundary. */
public final class ChangeBoundaryTest {
    private static final int INVALID = Subject.INVALID;
    private static final int IMPOSSIBLE = Subject.IMPOSSIBLE;
    private static final int LIMIT = Subject.LIMIT;
    private static final int NONE = Subject.NONE;

    /** Each kind of change on the core of start(). */
    private static final String[] CHANGES = {"addLayer 1 9 2 20", "removeLayer 0", "removeLayer 2", "setLayer 0 0 98",
        "setLayer 1 1 2", "setLayer 2 2 19", "addAsh 2 5 5", "removeAsh 0", "removeAsh 1", "set 0 50", "set 1 49", "set 2 48",
        "set 3 47", "lay"};

    /** Each kind of change, with nothing becoming different on the core of start(). */
    private static final String[] SAME = {"setLayer 0 0 5", "setLayer 1 1 1", "setLayer 2 2 3", "set 0 4", "set 1 5", "set 2 3",
        "set 3 2"};

    public static void main(String[] args) {
        eachChangeIsUndone();
        changesWithoutADifference();
        whatIsNoChange();
        mostStates();
        oldestIsDropped();
        undoIsNoChange();
        undoneFarBack();
        stateOfEachKind();
        invalidGoesFirst();
        notPossibleGoesBeforeLimit();
        noSuchNumber();
        questionsChangeNothing();
        allCalls();
        laterCallsEnd();
        Subject.finish();
    }

    private static Subject start() {
        return Subject.core("layer 5;gap 1;ash 3 2;faint 6;gap 2;thick 7;gap 3;ash 9 9;");
    }

    /** With the text of another core, so that lay is possible. */
    private static Subject startWithText() {
        return start().writes("thick 9;ash 1 1;");
    }

    private static void eachChangeIsUndone() {
        for (String change : CHANGES) {
            Subject.sentence("Changes and errors: each change records layers, ashes and settings before it: " + change);
            Subject x = startWithText();
            x.due("count 9", 5);
            Subject before = x.twin();
            x.does(change);
            x.due("count 9", 6);
            x.due("undo", 5);
            x.dueAllOf(before);
        }
    }

    private static void changesWithoutADifference() {
        for (String change : SAME) {
            Subject.sentence("Changes and errors: a change also if nothing becomes different: " + change);
            Subject x = start();
            x.due("count 9", 5);
            x.does(change);
            x.due("count 9", 6);
            x.dueCoreOf(start());
            x.due("undo", 5);
            x.dueAllOf(start());
        }
        Subject.sentence("Changes and errors: a change also if nothing becomes different: lay");
        Subject x = Subject.core("layer 5;ash 1 1").writes("layer 5;ash 1 1;");
        x.due("lay", 1).due("count 9", 3);
        x.due("lay", 1).due("count 9", 4);
        x.due("undo", 3).due("undo", 2);
        x.dueCoreOf(Subject.core("layer 5;ash 1 1"));
        Subject empty = Subject.fresh();
        for (int states = 1; states <= 6; states++) {
            empty.due("lay", 0).due("count 9", states);
        }
        empty.due("lay", 0).due("count 9", 6);
    }

    private static void whatIsNoChange() {
        Subject.sentence("Changes and errors: no other calls are changes");
        Subject x = start();
        x.does("undo");
        x.due("count 9", 4);
        x.writes("layer 5").does("clearText").writes("x");
        x.due("count 9", 4);
        String[] errors = {"addLayer 4 1 0 0", "removeLayer 3", "setLayer 0 0 100", "addAsh 4 1 1", "removeAsh 1", "set 4 1"};
        for (String call : errors) {
            x.refused(call, INVALID);
        }
        x.refused("addAsh 1 1 1", IMPOSSIBLE);
        x.refused("lay", IMPOSSIBLE);
        x.due("count 9", 4);
    }

    private static void mostStates() {
        Subject.sentence("Changes and errors: a history of at most 6 states");
        for (int changes = 0; changes <= 14; changes++) {
            Subject x = Subject.fresh();
            for (int i = 1; i <= changes; i++) {
                x.does("set 0 " + i);
            }
            int states = Math.min(6, changes);
            x.due("count 9", states);
            for (int left = states - 1; left >= 0; left--) {
                x.due("undo", left);
                x.due("count 9", left);
                int then = changes - states + left;
                x.due("count 5", then == 0 ? 4 : then);
            }
            x.refused("undo", IMPOSSIBLE);
            x.due("count 5", changes <= 6 ? 4 : changes - 6);
        }
    }

    private static void oldestIsDropped() {
        for (String change : CHANGES) {
            Subject.sentence("Changes and errors: if there are 7 states then, the oldest one is dropped: " + change);
            Subject x = startWithText().does("set 3 1", "set 3 2");
            x.due("count 9", 6);
            Subject before = x.twin();
            x.does(change);
            x.due("count 9", 6);
            x.due("undo", 5);
            x.dueCoreOf(before);
            for (int left = 4; left >= 0; left--) {
                x.due("undo", left);
                before.does("undo");
                x.dueCoreOf(before);
            }
            x.refused("undo", IMPOSSIBLE);
            before.due("undo", 0);
            before.refused("undo", IMPOSSIBLE);
        }
    }

    private static void undoIsNoChange() {
        Subject.sentence("promise 9: restores the latest state, which is removed from the history");
        Subject x = Subject.core("layer 1;layer 2;layer 3");
        x.due("undo", 2);
        x.dueAllOf(Subject.core("layer 1;layer 2"));
        x.does("addLayer 2 4 1 4");
        x.dueAllOf(Subject.core("layer 1;layer 2;faint 4;gap 4"));
        x.due("undo", 2).due("undo", 1).due("undo", 0);
        x.dueAllOf(Subject.fresh());
        Subject.sentence("promise 9: NOT_POSSIBLE if the history is empty");
        x.refused("undo", IMPOSSIBLE);
        Subject.fresh().refused("undo", IMPOSSIBLE);
        Subject text = Subject.fresh().writes("layer 5;");
        text.refused("undo", IMPOSSIBLE);
        text.does("set 0 4").due("undo", 0);
        text.refused("undo", IMPOSSIBLE);
        text.due("lay", 1).due("undo", 0);
        text.due("count 0", 0);
    }

    /** The history goes round many times. */
    private static void undoneFarBack() {
        Subject.sentence("promise 9: changes and undos, again and again");
        Subject x = Subject.fresh();
        List<Integer> kept = new ArrayList<>();
        int now = 4;
        for (int i = 0; i < 120; i++) {
            int changes = i % 8;
            for (int k = 0; k < changes % 4 + 1; k++) {
                kept.add(now);
                now = (7 * i + k) % 51;
                x.does("set 0 " + now);
            }
            while (kept.size() > 6) {
                kept.remove(0);
            }
            for (int k = 0; k < changes / 4 + i % 2 && !kept.isEmpty(); k++) {
                now = kept.remove(kept.size() - 1);
                x.due("undo", kept.size());
            }
        }
        x.due("count 5", now);
        x.due("count 9", kept.size());
        while (!kept.isEmpty()) {
            now = kept.remove(kept.size() - 1);
            x.due("undo", kept.size());
            x.due("count 5", now);
        }
        x.refused("undo", IMPOSSIBLE);
    }

    /** A state holds all of a full core, and none of a later one's numbers. */
    private static void stateOfEachKind() {
        Subject.sentence("promise 9: restores 50 layers, 6 ashes and 4 settings");
        Subject x = Subject.core(50, "thick #;gap 20").does("set 0 9", "set 1 10", "set 2 11", "set 3 12");
        for (int place = 45; place <= 50; place++) {
            x.does("addAsh " + place + " " + (350 + place) + " " + (place - 43));
        }
        Subject full = x.twin();
        x.due("lay", 0);
        x.does("addLayer 0 5 1 5", "addAsh 1 1 1", "set 0 0", "set 1 0");
        x.due("undo", 5).due("undo", 4).due("undo", 3).due("undo", 2);
        x.due("count 0", 0).due("count 5", 9);
        x.due("undo", 1);
        x.dueCoreOf(full);
        x.does("removeLayer 49");
        x.due("undo", 1);
        x.dueCoreOf(full);
        x.asked("cost", full.answer("cost"));
        x.due("undo", 0);
        x.due("count 1", 5);
    }

    private static void invalidGoesFirst() {
        Subject.sentence("Changes and errors: INVALID_ARGUMENT rather than NOT_POSSIBLE");
        Subject x = Subject.core("layer 5;ash 1 1;layer 6");
        x.refused("addAsh 1 5 5", IMPOSSIBLE);
        x.refused("addAsh 1 501 5", INVALID);
        x.refused("addAsh 1 -1 5", INVALID);
        x.refused("addAsh 1 5 10", INVALID);
        x.refused("addAsh 1 5 -1", INVALID);
        x.refused("costWith 1 5 5", IMPOSSIBLE);
        x.refused("costWith 1 501 5", INVALID);
        x.refused("costWith 1 -1 5", INVALID);
        x.refused("costWith 1 5 10", INVALID);
        x.refused("costWith 1 5 -1", INVALID);
        Subject.sentence("Changes and errors: INVALID_ARGUMENT rather than LIMIT_REACHED");
        Subject full = Subject.clear(50).writes("layer 12;".repeat(10));
        for (int place = 1; place <= 6; place++) {
            full.does("addAsh " + place + " 9 9");
        }
        full.refused("addLayer 0 1 0 0", LIMIT);
        String[] wrongOnes = {"addLayer -1 1 0 0", "addLayer 51 1 0 0", "addLayer 0 0 0 0", "addLayer 0 100 0 0",
            "addLayer 0 1 -1 0", "addLayer 0 1 3 0", "addLayer 0 1 0 -1", "addLayer 0 1 0 21", "addAsh 0 1 1", "addAsh 51 1 1",
            "addAsh 7 -1 1", "addAsh 7 501 1", "addAsh 7 1 -1", "addAsh 7 1 10", "type 31", "type 127"};
        for (String call : wrongOnes) {
            full.refused(call, INVALID);
        }
        full.refused("addAsh 7 1 1", LIMIT);
        full.refused("type 32", LIMIT);
    }

    private static void notPossibleGoesBeforeLimit() {
        Subject.sentence("Changes and errors: NOT_POSSIBLE rather than LIMIT_REACHED");
        Subject x = Subject.clear(8);
        for (int place = 1; place <= 6; place++) {
            x.does("addAsh " + place + " 9 9");
        }
        for (int place = 1; place <= 6; place++) {
            x.refused("addAsh " + place + " 1 1", IMPOSSIBLE);
        }
        x.refused("addAsh 7 1 1", LIMIT);
        x.refused("addAsh 8 1 1", LIMIT);
        Subject.sentence("Changes and errors: NOT_POSSIBLE rather than NOT_FOUND");
        Subject none = Subject.core("layer 5;ash 9 0;layer 6");
        none.refused("costWith 1 1 1", IMPOSSIBLE);
        none.refused("costWith 2 2 1", NONE);
    }

    private static void noSuchNumber() {
        Subject.sentence("Changes and errors: no layer, place or ash with a certain number");
        Subject[] several = {start(), Subject.core("layer 5;ash 9 0;layer 6;layer 7;ash 1 1")};
        String[] calls = {"removeLayer 3", "setLayer 3 0 1", "layer 3 0", "years 3 0", "addAsh 4 1 1", "age 4", "rate 0 4 0",
            "rate 4 5 0", "bound 4 0 0", "costWith 4 1 1", "removeAsh 2", "ash 2 0", "offset 2", "without 2", "addLayer 4 1 0 0"};
        for (Subject x : several) {
            for (String call : calls) {
                x.refused(call, INVALID);
            }
        }
    }

    private static void questionsChangeNothing() {
        Subject.sentence("Other counts; nothing changes");
        // One year is missing behind layer 0, for it is one for both ashes.
        Subject x = startWithText();
        x.asked("cost", 3 + 2 * 1 + 2 * 5);
        x.asked("ways", 1);
        x.asked("widen", 0);
        x.asked("fault", NONE);
        x.asked("count 9", 5);
        x.asked("layer 2 0", 7);
        x.asked("ash 1 0", 3);
        x.asked("years 0 1", 1);
        x.asked("age 3", 4);
        x.asked("offset 1", 95);
        x.asked("total 3", 6);
        x.asked("rate 0 3 0", 9);
        x.asked("rate 0 3 1", 2);
        x.asked("bound 3 200 0", 2);
        x.asked("bound 3 200 1", 10);
        x.asked("without 0", 2 * 6);
        x.asked("without 1", 2 * 2);
        x.asked("costWith 2 1 1", 2 * 2 + 2 * 1 + 2 * 6);
        x.refused("costWith 2 15 9", NONE);
    }

    /** 512 calls of all kinds on the largest core, each of them as it is due. */
    private static void allCalls() {
        Subject.sentence("What it is: an object is used for at most 512 calls");
        Subject x = Subject.fresh();
        int calls = 0;
        for (int layer = 0; layer < 50; layer++) {
            x.due("addLayer " + layer + " 99 2 20", layer + 1);
            calls++;
        }
        for (int ash = 0; ash < 6; ash++) {
            x.due("addAsh " + (ash + 45) + " " + (ash + 445) + " 9", ash);
            calls++;
        }
        // The ashes are 400 years older than their places without missing years, all six alike, so that
        // a year less would cost 6 * W and save G.
        String[] round = {"set 2 0", "bound 50 200 1", "ways", "set 2 3", "cost", "costWith 44 9 9", "without 5", "widen"};
        int[] due = {3, 459, 1000000, 0, 400 * 3, NONE, 400 * 3, 0};
        for (int i = 0; calls < 511; i++) {
            x.due(round[i % 8], due[i % 8]);
            calls++;
        }
        x.due("age 50", 450);
    }

    /** Nothing is promised of the answers, but no call throws or fails to end. */
    private static void laterCallsEnd() {
        VarveClock x = new VarveClock();
        for (int i = 0; i < 3000; i++) {
            x.addLayer(i % 51, 1 + i % 99, i % 3, i % 21);
            x.addAsh(1 + i % 50, i % 501, i % 10);
            x.type(32 + i % 95);
            x.set(i % 4, i % 51);
            x.bound(i % 51, i % 201, i % 2);
            x.ways();
            x.widen();
            x.fault();
            x.lay();
            if (i % 97 == 0) {
                x.clearText();
                x.undo();
            }
            x.removeAsh(i % 7);
            x.removeLayer(i % 53);
        }
    }
}
