import java.util.ArrayList;
import java.util.LinkedHashMap;
import java.util.List;
import java.util.Map;
import java.util.function.Consumer;
import java.util.function.ToLongFunction;

/** The sentences at the end of "Terms": where there is no stream, and that a call that is refused changes nothing. */
public final class RefusedTest extends Scenes {
    private static final Map<String, Consumer<Run>> STATES = new LinkedHashMap<>();
    private static final Map<String, ToLongFunction<Run>> REFUSED = new LinkedHashMap<>();
    private static final Map<String, ToLongFunction<Run>> NO_STREAM = new LinkedHashMap<>();
    private static final Map<String, ToLongFunction<Run>> NO_READ_PICTURE = new LinkedHashMap<>();
    private static final Map<String, ToLongFunction<Run>> SETTING_UP = new LinkedHashMap<>();

    public static void main(String[] args) {
        check = new Check("RefusedTest");
        listStates();
        listRefusedPainting();
        listRefusedSettingUp();
        listRefusedReading();
        listSettingUp();
        noStreamAtFirst();
        noStreamAfterSettingUp();
        streamAfterSettingUpRefused();
        refusedChangesNothing();
        askingChangesNothing();
        check.end();
    }

    // ---- the states and the calls

    /** 3 by 3 samples, 4 by 4 coefficients, 4 slices of 2 and 3 bytes; nothing is as it is at first. */
    private static void setUp(Run x) {
        x.paint(0, 0, 2, 3, 90);
        x.paint(1, 1, 1, 1, -77);
        x.slope(9, -5);
        x.filter(2, 1, 1);
        x.slices(2, 2, true);
        x.ease(0, 6);
        x.ease(4, 3);
        x.rate(5, 2);
    }

    private static void listStates() {
        STATES.put("at first", x -> { });
        STATES.put("set up", x -> setUp(x));
        STATES.put("written", x -> {
            setUp(x);
            x.encode();
        });
        STATES.put("written and read", x -> {
            setUp(x);
            x.encode();
            x.decode();
        });
        STATES.put("changed since", x -> {
            setUp(x);
            x.encode();
            x.decode();
            x.poke(3, 0);
            x.paint(2, 2, 1, 1, 1);
        });
        STATES.put("set up again", x -> {
            setUp(x);
            x.encode();
            x.decode();
            x.ease(1, 2);
        });
    }

    private static void listRefusedPainting() {
        REFUSED.put("paint(3, 0, 1, 1, 5)", x -> bit(x.paint(3, 0, 1, 1, 5)));
        REFUSED.put("paint(-1, 0, 3, 3, 5)", x -> bit(x.paint(-1, 0, 3, 3, 5)));
        REFUSED.put("paint(0, 3, 1, 1, 5)", x -> bit(x.paint(0, 3, 1, 1, 5)));
        REFUSED.put("paint(0, -1, 3, 3, 5)", x -> bit(x.paint(0, -1, 3, 3, 5)));
        REFUSED.put("paint(0, 0, 0, 3, 5)", x -> bit(x.paint(0, 0, 0, 3, 5)));
        REFUSED.put("paint(0, 0, 17, 3, 5)", x -> bit(x.paint(0, 0, 17, 3, 5)));
        REFUSED.put("paint(0, 0, 3, 0, 5)", x -> bit(x.paint(0, 0, 3, 0, 5)));
        REFUSED.put("paint(0, 0, 3, 17, 5)", x -> bit(x.paint(0, 0, 3, 17, 5)));
        REFUSED.put("paint(0, 0, 3, 3, 128)", x -> bit(x.paint(0, 0, 3, 3, 128)));
        REFUSED.put("paint(0, 0, 3, 3, -129)", x -> bit(x.paint(0, 0, 3, 3, -129)));
        REFUSED.put("slope(33, 1)", x -> bit(x.slope(33, 1)));
        REFUSED.put("slope(-33, 1)", x -> bit(x.slope(-33, 1)));
        REFUSED.put("slope(1, 33)", x -> bit(x.slope(1, 33)));
        REFUSED.put("slope(1, -33)", x -> bit(x.slope(1, -33)));
    }

    /** Beside the wrong argument the others are right ones that would change something. */
    private static void listRefusedSettingUp() {
        REFUSED.put("filter(-1, 0, 2)", x -> bit(x.filter(-1, 0, 2)));
        REFUSED.put("filter(7, 0, 2)", x -> bit(x.filter(7, 0, 2)));
        REFUSED.put("filter(5, -1, 2)", x -> bit(x.filter(5, -1, 2)));
        REFUSED.put("filter(5, 3, 0)", x -> bit(x.filter(5, 3, 0)));
        REFUSED.put("filter(5, 0, -1)", x -> bit(x.filter(5, 0, -1)));
        REFUSED.put("filter(5, 0, 3)", x -> bit(x.filter(5, 0, 3)));
        REFUSED.put("filter(5, 2, 2)", x -> bit(x.filter(5, 2, 2)));
        REFUSED.put("slices(0, 3, false)", x -> bit(x.slices(0, 3, false)));
        REFUSED.put("slices(5, 3, false)", x -> bit(x.slices(5, 3, false)));
        REFUSED.put("slices(3, 0, false)", x -> bit(x.slices(3, 0, false)));
        REFUSED.put("slices(3, 5, false)", x -> bit(x.slices(3, 5, false)));
        REFUSED.put("slices(3, 5, true)", x -> bit(x.slices(3, 5, true)));
        REFUSED.put("ease(-1, 9)", x -> bit(x.ease(-1, 9)));
        REFUSED.put("ease(5, 9)", x -> bit(x.ease(5, 9)));
        REFUSED.put("ease(0, -1)", x -> bit(x.ease(0, -1)));
        REFUSED.put("ease(0, 16)", x -> bit(x.ease(0, 16)));
        REFUSED.put("rate(9, 0)", x -> bit(x.rate(9, 0)));
        REFUSED.put("rate(0, 0)", x -> bit(x.rate(0, 0)));
        REFUSED.put("rate(200, 65)", x -> bit(x.rate(200, 65)));
        REFUSED.put("rate(-3, -1)", x -> bit(x.rate(-3, -1)));
        REFUSED.put("rate(5, 3)", x -> bit(x.rate(5, 3)));
        REFUSED.put("rate(385, 3)", x -> bit(x.rate(385, 3)));
    }

    private static void listRefusedReading() {
        REFUSED.put("sample(3, 0)", x -> none(x.sample(3, 0)));
        REFUSED.put("sample(0, -1)", x -> none(x.sample(0, -1)));
        REFUSED.put("coefficient(-1, 0)", x -> x.coefficient(-1, 0));
        REFUSED.put("coefficient(0, 4)", x -> x.coefficient(0, 4));
        REFUSED.put("byteAt(-1)", x -> minus(x.byteAt(-1)));
        REFUSED.put("byteAt(128)", x -> minus(x.byteAt(128)));
        REFUSED.put("poke(-1, 170)", x -> bit(x.poke(-1, 170)));
        REFUSED.put("poke(128, 170)", x -> bit(x.poke(128, 170)));
        REFUSED.put("poke(1, -1)", x -> bit(x.poke(1, -1)));
        REFUSED.put("poke(1, 256)", x -> bit(x.poke(1, 256)));
        REFUSED.put("index(-1)", x -> minus(x.index(-1)));
        REFUSED.put("index(4)", x -> minus(x.index(4)));
        REFUSED.put("used(-1)", x -> minus(x.used(-1)));
        REFUSED.put("used(4)", x -> minus(x.used(4)));
        REFUSED.put("nonzero(-1)", x -> minus(x.nonzero(-1)));
        REFUSED.put("nonzero(4)", x -> minus(x.nonzero(4)));
        REFUSED.put("decoded(3, 0)", x -> none(x.decoded(3, 0)));
        REFUSED.put("decoded(0, -1)", x -> none(x.decoded(0, -1)));
        REFUSED.put("rebuilt(0, -1)", x -> x.rebuilt(0, -1));
        REFUSED.put("rebuilt(4, 0)", x -> x.rebuilt(4, 0));
        NO_STREAM.put("byteAt(0)", x -> minus(x.byteAt(0)));
        NO_STREAM.put("poke(0, 170)", x -> bit(x.poke(0, 170)));
        NO_STREAM.put("index(0)", x -> minus(x.index(0)));
        NO_STREAM.put("used(0)", x -> minus(x.used(0)));
        NO_STREAM.put("nonzero(0)", x -> minus(x.nonzero(0)));
        NO_STREAM.put("decode()", x -> minus(x.decode()));
        NO_READ_PICTURE.put("decoded(0, 0)", x -> none(x.decoded(0, 0)));
        NO_READ_PICTURE.put("rebuilt(0, 0)", x -> x.rebuilt(0, 0));
        NO_READ_PICTURE.put("error()", x -> minus(x.error()));
    }

    /** Calls that set up something: what they set may be what it is already. */
    private static void listSettingUp() {
        SETTING_UP.put("filter(2, 1, 1)", x -> bit(x.filter(2, 1, 1)));
        SETTING_UP.put("filter(3, 2, 0)", x -> bit(x.filter(3, 2, 0)));
        SETTING_UP.put("slices(2, 2, true)", x -> bit(x.slices(2, 2, true)));
        SETTING_UP.put("slices(2, 2, false)", x -> bit(x.slices(2, 2, false)));
        SETTING_UP.put("slices(4, 1, true)", x -> bit(x.slices(4, 1, true)));
        SETTING_UP.put("ease(0, 6)", x -> bit(x.ease(0, 6)));
        SETTING_UP.put("ease(1, 0)", x -> bit(x.ease(1, 0)));
        SETTING_UP.put("ease(2, 15)", x -> bit(x.ease(2, 15)));
        SETTING_UP.put("rate(5, 2)", x -> bit(x.rate(5, 2)));
        SETTING_UP.put("rate(128, 1)", x -> bit(x.rate(128, 1)));
    }

    /** Each of these is 0 when the answer is that of a call that is refused. */
    private static long bit(boolean answer) {
        return answer ? 1 : 0;
    }

    private static long minus(int answer) {
        return answer + 1L;
    }

    private static long none(int answer) {
        return answer + 1000L;
    }

    // ---- the tests

    private static void noStreamAtFirst() {
        says("There is no stream at first");
        for (int size = 0; size <= 17; size++) {
            Run x = new Run(size, 17 - size);
            noStream("at first", x);
            noReadPicture("at first", x);
            x.paint(0, 0, 1, 1, 3);
            x.slope(1, 1);
            x.coefficient(0, 0);
            noStream("after paint and slope", x);
            noReadPicture("after paint and slope", x);
        }
    }

    private static void noStreamAfterSettingUp() {
        says("and none after a call of filter, slices, ease or rate that answered true;"
            + " then there is no READ PICTURE either.");
        for (String call : SETTING_UP.keySet()) {
            for (String state : new String[] {"set up", "written", "written and read", "changed since"}) {
                Run x = inState(state);
                same(call, SETTING_UP.get(call).applyAsLong(x), 1);
                noStream(state + ", then " + call, x);
                noReadPicture(state + ", then " + call, x);
                x.encode();
                noReadPicture(state + ", then " + call + " and encode()", x);
                yes("decode", x.decode() >= 0);
                yes("decoded", x.decoded(0, 0) != NONE);
            }
        }
    }

    private static void streamAfterSettingUpRefused() {
        says("and none after a call of filter, slices, ease or rate that answered true");
        for (String call : REFUSED.keySet()) {
            Run x = inState("written and read");
            same(call, REFUSED.get(call).applyAsLong(x), 0);
            yes("the stream stays after " + call, x.byteAt(0) >= 0 && x.index(3) >= 0);
            yes("the read picture stays after " + call, x.error() >= 0 && x.decoded(2, 2) != NONE);
        }
    }

    private static void refusedChangesNothing() {
        says("A call that is refused (false, NONE or -1) changes nothing.");
        for (String state : STATES.keySet()) {
            Run x = inState(state);
            boolean stream = x.byteAt(0) >= 0;
            boolean readPicture = x.error() >= 0;
            Map<String, ToLongFunction<Run>> calls = new LinkedHashMap<>(REFUSED);
            if (!stream) {
                calls.putAll(NO_STREAM);
            }
            if (!readPicture) {
                calls.putAll(NO_READ_PICTURE);
            }
            for (String call : calls.keySet()) {
                Run y = inState(state);
                same(state + ": " + call, calls.get(call).applyAsLong(y), 0);
                sameAnswers(state + ", then " + call, y, inState(state));
            }
        }
    }

    private static void askingChangesNothing() {
        says("Nothing is promised beyond the answers and state changes described above");
        for (String state : STATES.keySet()) {
            Run x = inState(state);
            answers(x);
            x.bands();
            sameAnswers(state + ", then questions", x, inState(state));
        }
    }

    private static Run inState(String state) {
        Run x = new Run(3, 3);
        STATES.get(state).accept(x);
        return x;
    }

    /** Two objects of which one has had calls that change nothing: as they are, then written, then read. */
    private static void sameAnswers(String what, Run x, Run y) {
        sameLists(what, answers(x), answers(y));
        same(what + ": encode()", x.encode(), y.encode());
        sameLists(what + ", encode()", answers(x), answers(y));
        same(what + ": decode()", x.decode(), y.decode());
        sameLists(what + ", encode(), decode()", answers(x), answers(y));
    }

    private static void sameLists(String what, List<Long> got, List<Long> want) {
        for (int i = 0; i < want.size(); i++) {
            same(what + ": answer " + i, got.get(i), want.get(i));
        }
    }

    /** Every question that changes nothing. */
    private static List<Long> answers(Run x) {
        List<Long> all = new ArrayList<>();
        all.add((long) x.bands());
        all.add((long) x.error());
        for (int i = 0; i < 16; i++) {
            all.add(x.coefficient(i % 4, i / 4));
            all.add(x.rebuilt(i % 4, i / 4));
        }
        for (int i = 0; i < 9; i++) {
            all.add((long) x.sample(i % 3, i / 3));
            all.add((long) x.decoded(i % 3, i / 3));
        }
        for (int k = 0; k < 12; k++) {
            all.add((long) x.byteAt(k));
        }
        for (int s = 0; s < 4; s++) {
            all.add((long) x.index(s));
            all.add((long) x.used(s));
            all.add((long) x.nonzero(s));
        }
        return all;
    }
}
