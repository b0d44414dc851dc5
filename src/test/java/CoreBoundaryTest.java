/** The sentences of 'Core', and promises 1 to 7 and 10 to 12, each at its boundary. */
public final class CoreBoundaryTest {
    private static final int INVALID = Subject.INVALID;
    private static final int IMPOSSIBLE = Subject.IMPOSSIBLE;
    private static final int LIMIT = Subject.LIMIT;

    public static void main(String[] args) {
        newObject();
        mostLayers();
        layerNumbers();
        layerRanges();
        places();
        mostAshes();
        ashNumbers();
        ashRanges();
        addLayer();
        addLayerBesideAshes();
        removeLayer();
        removeLayerAboveAshes();
        removeLayerBetweenAshes();
        setLayer();
        addAsh();
        removeAsh();
        set();
        count();
        Subject.finish();
    }

    private static void newObject() {
        Subject.sentence("promise 1: an empty core with the initial settings");
        Subject x = Subject.fresh();
        int[] counts = {0, 0, 0, 0, 0, 4, 5, 3, 2, 0};
        for (int what = 0; what < counts.length; what++) {
            x.asked("count " + what, counts[what]);
        }
        x.refused("undo", IMPOSSIBLE);
        x.asked("fault", Subject.NONE);
        x.due("clearText", 0);
        Subject.sentence("promise 1: what is done to one object is not seen on another");
        Subject used = Subject.core("layer 5;ash 1 1").does("set 0 9", "set 1 9", "set 2 9", "set 3 9").writes("layer 5;");
        Subject.fresh().dueAllOf(x);
        used.due("count 5", 9);
    }

    private static void mostLayers() {
        Subject.sentence("Core: at most 50 layers");
        Subject x = Subject.clear(49);
        x.due("addLayer 49 7 1 3", 50);
        x.due("count 0", 50);
        x.dueLayer(49, 7, 1, 3);
        x.refused("addLayer 50 1 0 0", LIMIT);
        x.refused("addLayer 0 1 0 0", LIMIT);
        x.refused("addLayer 25 99 2 20", LIMIT);
        x.refused("layer 50 0", INVALID);
        x.refused("removeLayer 50", INVALID);
        x.due("setLayer 49 0 8", 7);
        x.due("removeLayer 49", 49);
        x.due("addLayer 0 9 2 20", 50);
        x.dueLayer(0, 9, 2, 20);
        x.dueLayer(49, 49, 0, 0);
        x.refused("addLayer 0 9 2 20", LIMIT);
        x.due("undo", 5);
        x.due("count 0", 49);
        x.due("addLayer 20 5 0 0", 50);
        x.refused("addLayer 20 5 0 0", LIMIT);
    }

    private static void layerNumbers() {
        Subject.sentence("Core: layers numbered from 0 at the top downward, initially none");
        Subject none = Subject.fresh();
        none.due("count 0", 0);
        none.refused("layer 0 0", INVALID);
        none.due("addLayer 0 11 0 1", 1);
        none.refused("layer 1 0", INVALID);
        none.due("addLayer 1 22 1 2", 2);
        none.due("addLayer 2 33 2 3", 3);
        none.dueLayer(0, 11, 0, 1);
        none.dueLayer(1, 22, 1, 2);
        none.dueLayer(2, 33, 2, 3);
        none.due("age 1", 1);
        none.refused("layer 3 0", INVALID);
        none.refused("layer -1 0", INVALID);
    }

    private static void layerRanges() {
        Subject.sentence("Core: thickness 1 to 99");
        Subject x = Subject.fresh();
        x.due("addLayer 0 1 0 0", 1).due("layer 0 0", 1);
        x.due("addLayer 0 99 0 0", 2).due("layer 0 0", 99);
        x.refused("addLayer 0 0 0 0", INVALID);
        x.refused("addLayer 0 100 0 0", INVALID);
        x.refused("setLayer 0 0 0", INVALID);
        x.refused("setLayer 0 0 100", INVALID);
        x.due("setLayer 0 0 1", 99).due("layer 0 0", 1);
        x.due("setLayer 0 0 99", 1).due("layer 0 0", 99);
        Subject.sentence("Core: kind 0 clear, 1 faint, 2 thick");
        x = Subject.fresh();
        x.due("addLayer 0 5 0 0", 1).due("layer 0 1", 0).due("count 3", 0).due("count 4", 0);
        x.due("addLayer 0 5 1 0", 2).due("layer 0 1", 1).due("count 3", 1).due("count 4", 0);
        x.due("addLayer 0 5 2 0", 3).due("layer 0 1", 2).due("count 3", 1).due("count 4", 1);
        x.refused("addLayer 0 5 -1 0", INVALID);
        x.refused("addLayer 0 5 3 0", INVALID);
        x.refused("setLayer 0 1 -1", INVALID);
        x.refused("setLayer 0 1 3", INVALID);
        x.due("setLayer 0 1 0", 2).due("layer 0 1", 0);
        x.due("setLayer 0 1 2", 0).due("layer 0 1", 2);
        Subject.sentence("Core: missing years 0 to 20");
        x = Subject.fresh();
        x.due("addLayer 0 5 0 0", 1).due("layer 0 2", 0);
        x.due("addLayer 0 5 0 20", 2).due("layer 0 2", 20);
        x.refused("addLayer 0 5 0 -1", INVALID);
        x.refused("addLayer 0 5 0 21", INVALID);
        x.refused("setLayer 0 2 -1", INVALID);
        x.refused("setLayer 0 2 21", INVALID);
        x.due("setLayer 0 2 0", 20).due("layer 0 2", 0);
        x.due("setLayer 0 2 20", 0).due("layer 0 2", 20);
    }

    private static void places() {
        Subject.sentence("Core: places from 0 to the number of layers, place p above layer p");
        Subject x = Subject.core("layer 5;gap 4;layer 6;ash 4 0;layer 7");
        int[] ages = {0, 3, 4, 5};
        for (int place = 0; place < ages.length; place++) {
            x.asked("age " + place, ages[place]);
            x.asked("bound " + place + " 0 0", ages[place]);
        }
        x.refused("age 4", INVALID);
        x.refused("age -1", INVALID);
        x.refused("bound 4 0 0", INVALID);
        x.due("addLayer 3 8 0 0", 4);
        x.asked("age 4", 6);
    }

    private static void mostAshes() {
        Subject.sentence("Core: at most 6 ashes");
        Subject x = Subject.clear(8);
        for (int ash = 0; ash < 5; ash++) {
            x.due("addAsh " + (ash + 2) + " " + ash + " 3", ash);
        }
        x.due("addAsh 8 10 3", 5);
        x.due("count 1", 6);
        x.refused("addAsh 1 1 1", LIMIT);
        x.refused("addAsh 7 1 1", LIMIT);
        x.refused("addAsh 8 1 1", IMPOSSIBLE);
        x.refused("addAsh 9 1 1", INVALID);
        x.refused("ash 6 0", INVALID);
        x.refused("removeAsh 6", INVALID);
        x.dueAsh(5, 8, 10, 3);
        x.due("removeAsh 0", 5);
        x.due("addAsh 1 1 1", 0);
        x.refused("addAsh 2 1 1", LIMIT);
        x.due("undo", 5);
        x.due("addAsh 7 1 1", 4);
        x.refused("addAsh 1 1 1", LIMIT);
        Subject.sentence("Core: at most 6 ashes, in a core of 50 layers, one at the bottom");
        x = Subject.clear(50);
        for (int ash = 0; ash < 6; ash++) {
            x.due("addAsh " + (50 - ash) + " 50 9", 0);
        }
        x.refused("addAsh 1 50 9", LIMIT);
        x.dueAsh(5, 50, 50, 9);
    }

    private static void ashNumbers() {
        Subject.sentence("Core: ashes numbered from 0 by ascending places, all different");
        Subject x = Subject.clear(7);
        x.due("addAsh 4 40 4", 0);
        x.due("addAsh 7 70 7", 1);
        x.due("addAsh 1 10 1", 0);
        x.due("addAsh 3 30 3", 1);
        x.due("addAsh 6 60 6", 3);
        x.due("addAsh 5 50 5", 3);
        int[] placesThen = {1, 3, 4, 5, 6, 7};
        for (int ash = 0; ash < 6; ash++) {
            int place = placesThen[ash];
            x.dueAsh(ash, place, 10 * place, place);
            x.refused("addAsh " + place + " 5 5", IMPOSSIBLE);
        }
        x.due("removeAsh 2", 5);
        x.refused("addAsh 3 5 5", IMPOSSIBLE);
        x.refused("addAsh 5 5 5", IMPOSSIBLE);
        x.due("addAsh 4 41 8", 2);
        x.dueAsh(2, 4, 41, 8);
    }

    private static void ashRanges() {
        Subject.sentence("Core: an ash has a place, at least 1");
        Subject x = Subject.clear(3);
        x.refused("addAsh 0 1 1", INVALID);
        x.refused("addAsh 4 1 1", INVALID);
        x.due("addAsh 1 1 1", 0).due("ash 0 0", 1);
        x.due("addAsh 3 3 1", 1).due("ash 1 0", 3);
        Subject.sentence("Core: an age 0 to 500");
        x = Subject.clear(3);
        x.refused("addAsh 1 -1 1", INVALID);
        x.refused("addAsh 1 501 1", INVALID);
        x.due("addAsh 1 0 1", 0).due("ash 0 1", 0);
        x.due("addAsh 2 500 1", 1).due("ash 1 1", 500);
        Subject.sentence("Core: an uncertainty 0 to 9");
        x = Subject.clear(3);
        x.refused("addAsh 1 1 -1", INVALID);
        x.refused("addAsh 1 1 10", INVALID);
        x.due("addAsh 1 1 0", 0).due("ash 0 2", 0);
        x.due("addAsh 2 1 9", 1).due("ash 1 2", 9);
    }

    private static void addLayer() {
        Subject.sentence("promise 2: the new layer gets the number, those from there on increase by 1");
        Subject x = Subject.core("layer 10;gap 1;faint 20;gap 2;thick 30;gap 3");
        x.due("addLayer 0 77 2 17", 4);
        x.dueCoreOf(Subject.core("thick 77;gap 17;layer 10;gap 1;faint 20;gap 2;thick 30;gap 3"));
        x.due("addLayer 2 88 1 18", 5);
        x.dueCoreOf(Subject.core("thick 77;gap 17;layer 10;gap 1;faint 88;gap 18;faint 20;gap 2;thick 30;gap 3"));
        x.due("addLayer 4 66 0 16", 6);
        x.due("addLayer 6 99 0 19", 7);
        x.dueCoreOf(Subject.core("thick 77;gap 17;layer 10;gap 1;faint 88;gap 18;faint 20;gap 2;layer 66;gap 16;"
                + "thick 30;gap 3;layer 99;gap 19"));
        x.refused("addLayer 8 1 0 0", INVALID);
        x.refused("addLayer -1 1 0 0", INVALID);
    }

    private static void addLayerBesideAshes() {
        Subject.sentence("promise 2: ashes at the place above it stay above it, those below go down by 1");
        // Here and below the ages do not grow with the places, so that one can't stand for the other.
        String rest = "layer 2;ash 0 2;layer 3;ash 1 3";
        Subject top = Subject.core("layer 1;ash 400 1;" + rest);
        top.due("addLayer 0 9 0 0", 4);
        top.dueCoreOf(Subject.core("layer 9;layer 1;ash 400 1;" + rest));
        Subject between = Subject.core("layer 1;ash 400 1;" + rest);
        between.due("addLayer 1 9 0 0", 4);
        between.dueCoreOf(Subject.core("layer 1;ash 400 1;layer 9;" + rest));
        Subject bottom = Subject.core("layer 1;ash 400 1;" + rest);
        bottom.due("addLayer 3 9 0 0", 4);
        bottom.dueCoreOf(Subject.core("layer 1;ash 400 1;" + rest + ";layer 9"));
        Subject deepest = Subject.clear(49).does("addAsh 49 49 0", "addAsh 48 48 0");
        deepest.due("addLayer 48 9 0 0", 50);
        deepest.dueAsh(0, 48, 48, 0);
        deepest.dueAsh(1, 50, 49, 0);
    }

    private static void removeLayer() {
        Subject.sentence("promise 3: removes a layer, and returns the number of those that remain");
        Subject x = Subject.core("layer 10;gap 1;faint 20;gap 2;thick 30;gap 3;layer 40;gap 4");
        x.refused("removeLayer 4", INVALID);
        x.refused("removeLayer -1", INVALID);
        x.due("removeLayer 3", 3);
        x.dueCoreOf(Subject.core("layer 10;gap 1;faint 20;gap 2;thick 30;gap 3"));
        x.refused("removeLayer 3", INVALID);
        x.due("removeLayer 1", 2);
        x.dueCoreOf(Subject.core("layer 10;gap 1;thick 30;gap 3"));
        x.due("removeLayer 0", 1);
        x.dueCoreOf(Subject.core("thick 30;gap 3"));
        x.due("removeLayer 0", 0);
        x.dueCoreOf(Subject.fresh());
        x.refused("removeLayer 0", INVALID);
        Subject full = Subject.clear(50);
        full.due("removeLayer 49", 49);
        full.dueCoreOf(Subject.clear(49));
    }

    private static void removeLayerAboveAshes() {
        Subject.sentence("promise 3: the places of the ashes below it decrease by 1, those above stay");
        Subject x = Subject.core("layer 1;layer 2;ash 0 2;layer 3;layer 4;ash 0 4;layer 5");
        x.due("removeLayer 4", 4);
        x.dueCoreOf(Subject.core("layer 1;layer 2;ash 0 2;layer 3;layer 4;ash 0 4"));
        x.due("removeLayer 2", 3);
        x.dueCoreOf(Subject.core("layer 1;layer 2;ash 0 2;layer 4;ash 0 4"));
        x.due("removeLayer 0", 2);
        x.dueCoreOf(Subject.core("layer 2;ash 0 2;layer 4;ash 0 4"));
        Subject.sentence("promise 3: an ash directly below goes up to place 1 at the least, and is kept");
        Subject second = Subject.core("layer 1;layer 2;ash 0 2;layer 3");
        second.due("removeLayer 1", 2);
        second.dueCoreOf(Subject.core("layer 1;ash 0 2;layer 3"));
        Subject.sentence("promise 3: removed if its place would be 0");
        second.due("removeLayer 0", 1);
        second.dueCoreOf(Subject.core("layer 3"));
        Subject first = Subject.core("layer 1;ash 400 1;layer 2;ash 0 2;layer 3;ash 1 3");
        first.due("removeLayer 0", 2);
        first.dueCoreOf(Subject.core("layer 2;ash 0 2;layer 3;ash 1 3"));
        Subject last = Subject.core("layer 1;ash 400 1");
        last.due("removeLayer 0", 0);
        last.due("count 1", 0);
        last.dueCoreOf(Subject.fresh());
    }

    private static void removeLayerBetweenAshes() {
        Subject.sentence("promise 3: removed if there is an ash at the place above the layer");
        Subject x = Subject.core("layer 1;ash 400 1;layer 2;ash 0 2;layer 3;ash 1 3");
        x.due("removeLayer 2", 2);
        x.dueCoreOf(Subject.core("layer 1;ash 400 1;layer 2;ash 0 2"));
        x.due("removeLayer 1", 1);
        x.dueCoreOf(Subject.core("layer 1;ash 400 1"));
        Subject middle = Subject.core("layer 1;ash 400 1;layer 2;ash 0 2;layer 3;ash 1 3");
        middle.due("removeLayer 1", 2);
        middle.dueCoreOf(Subject.core("layer 1;ash 400 1;layer 3;ash 1 3"));
        Subject.sentence("promise 3: only one that lies directly below is removed");
        Subject far = Subject.core("layer 1;ash 400 1;layer 2;layer 3;ash 1 3");
        far.due("removeLayer 1", 2);
        far.dueCoreOf(Subject.core("layer 1;ash 400 1;layer 3;ash 1 3"));
        Subject above = Subject.core("layer 1;ash 400 1;layer 2");
        above.due("removeLayer 1", 1);
        above.dueCoreOf(Subject.core("layer 1;ash 400 1"));
        Subject.sentence("promise 3: six ashes, one at the bottom of 50 layers");
        Subject full = Subject.clear(50);
        for (int place = 45; place <= 50; place++) {
            full.does("addAsh " + place + " " + place + " 0");
        }
        full.due("removeLayer 49", 49);
        full.due("count 1", 5);
        full.dueAsh(4, 49, 49, 0);
        full.due("removeLayer 44", 48);
        full.due("count 1", 5);
        full.dueAsh(0, 44, 45, 0);
        full.dueAsh(4, 48, 49, 0);
    }

    private static void setLayer() {
        Subject.sentence("promise 4: sets one property of one layer, and returns the previous value");
        Subject x = Subject.core("layer 10;gap 1;faint 20;gap 2;thick 30;gap 3;ash 5 5");
        x.due("setLayer 1 0 99", 20);
        x.dueCoreOf(Subject.core("layer 10;gap 1;faint 99;gap 2;thick 30;gap 3;ash 5 5"));
        x.due("setLayer 0 1 2", 0);
        x.dueCoreOf(Subject.core("thick 10;gap 1;faint 99;gap 2;thick 30;gap 3;ash 5 5"));
        x.due("setLayer 2 2 20", 3);
        x.dueCoreOf(Subject.core("thick 10;gap 1;faint 99;gap 2;thick 30;gap 20;ash 5 5"));
        x.due("setLayer 2 2 20", 20);
        x.due("setLayer 0 0 1", 10);
        x.due("setLayer 1 1 0", 1);
        x.due("setLayer 1 2 0", 2);
        x.dueCoreOf(Subject.core("thick 1;gap 1;layer 99;thick 30;gap 20;ash 5 5"));
        Subject.sentence("promise 4: each property has its own range");
        x.refused("setLayer 0 0 0", INVALID);
        x.due("setLayer 0 1 0", 2);
        x.due("setLayer 0 2 0", 1);
        x.refused("setLayer 0 1 20", INVALID);
        x.refused("setLayer 0 2 99", INVALID);
        x.refused("setLayer 3 0 5", INVALID);
    }

    private static void addAsh() {
        Subject.sentence("promise 5: place 1 to the number of layers");
        Subject x = Subject.clear(1);
        x.refused("addAsh 0 1 1", INVALID);
        x.refused("addAsh 2 1 1", INVALID);
        x.due("addAsh 1 1 1", 0);
        x.refused("addAsh 1 1 1", IMPOSSIBLE);
        x.refused("addAsh 1 500 9", IMPOSSIBLE);
        Subject.sentence("promise 5: after its layer was removed the place is none any more");
        Subject shorter = Subject.clear(2).does("addAsh 2 2 2", "removeLayer 0");
        shorter.refused("addAsh 2 1 1", INVALID);
        shorter.refused("addAsh 1 1 1", IMPOSSIBLE);
        Subject.sentence("promise 5: ends of the ranges together");
        Subject ends = Subject.clear(50);
        ends.due("addAsh 50 500 9", 0).dueAsh(0, 50, 500, 9);
        ends.due("addAsh 1 0 0", 0).dueAsh(0, 1, 0, 0);
        ends.dueAsh(1, 50, 500, 9);
    }

    private static void removeAsh() {
        Subject.sentence("promise 6: removes an ash, and returns the number of those that remain");
        Subject x = Subject.core("layer 1;ash 10 1;layer 2;ash 20 2;layer 3;ash 30 3;layer 4;ash 40 4");
        x.refused("removeAsh 4", INVALID);
        x.refused("removeAsh -1", INVALID);
        x.due("removeAsh 3", 3);
        x.refused("removeAsh 3", INVALID);
        x.dueCoreOf(Subject.core("layer 1;ash 10 1;layer 2;ash 20 2;layer 3;ash 30 3;layer 4"));
        x.due("removeAsh 1", 2);
        x.dueCoreOf(Subject.core("layer 1;ash 10 1;layer 2;layer 3;ash 30 3;layer 4"));
        x.due("removeAsh 0", 1);
        x.dueCoreOf(Subject.core("layer 1;layer 2;layer 3;ash 30 3;layer 4"));
        x.due("removeAsh 0", 0);
        x.dueCoreOf(Subject.clear(4));
        x.refused("removeAsh 0", INVALID);
    }

    private static void set() {
        Subject.sentence("promise 7: each setting 0 to 50, one by one, the previous value returned");
        int[] initial = {4, 5, 3, 2};
        for (int what = 0; what <= 3; what++) {
            Subject x = Subject.core("layer 5;ash 1 1");
            x.refused("set " + what + " -1", INVALID);
            x.refused("set " + what + " 51", INVALID);
            x.due("set " + what + " 50", initial[what]);
            x.due("count " + (5 + what), 50);
            x.due("set " + what + " 0", 50);
            x.due("count " + (5 + what), 0);
            x.refused("set " + what + " -1", INVALID);
            x.due("set " + what + " 0", 0);
            for (int other = 0; other <= 3; other++) {
                x.due("count " + (5 + other), other == what ? 0 : initial[other]);
            }
        }
    }

    private static void count() {
        Subject.sentence("promise 10: the numbers of an empty core and of a full one");
        Subject full = Subject.core(50, "faint 99;gap 20");
        int[] counts = {50, 0, 4950, 50, 0, 4, 5, 3, 2, 6};
        for (int what = 0; what < counts.length; what++) {
            full.asked("count " + what, counts[what]);
        }
        for (int layer = 0; layer < 50; layer++) {
            full.does("setLayer " + layer + " 1 2");
        }
        full.due("count 3", 0).due("count 4", 50);
        Subject.sentence("promise 10: each number by itself");
        Subject x = Subject.core("layer 1;faint 2;faint 4;thick 8;thick 16;thick 32;ash 9 1;layer 64");
        x.does("set 0 11", "set 1 12", "set 2 13", "set 3 14", "undo");
        int[] each = {7, 1, 127, 2, 3, 11, 12, 13, 2, 5};
        for (int what = 0; what < each.length; what++) {
            x.asked("count " + what, each[what]);
        }
    }
}
