import java.util.ArrayList;
import java.util.LinkedHashMap;
import java.util.List;
import java.util.Map;
import java.util.function.ToIntFunction;

/** Two objects with different calls behind them that nothing may tell apart: for calls that change nothing. */
final class Twins {
    /** The calls behind an object; they are made on a new object for each thing that is asked of it. */
    interface Calls {
        void on(TaleHoles x);
    }

    private static final int PARTS = 28;

    private Twins() {
    }

    /** Four states in the history, a snapshot that differs from the state, a text, holes with words and without. */
    static void rich(TaleHoles x) {
        Check.word(x, "cat", 0, 1);
        Check.word(x, "run", 1, 0);
        Check.word(x, "big", 2, 0);
        Check.word(x, "dogge", 0, 2);
        Check.word(x, "cow", 0, 1);
        x.setEnding(0, 1, 19, 0);
        x.setEnding(2, 4, 5, 19);
        x.setTie(2, 1, 2);
        Check.tale(x, "the #a1 #n1 #v2 #n1");
        x.keep();
        x.setTie(1, 1, 1);
        x.fill(1, 0);
        x.fill(2, 1);
        x.setEnding(1, 5, 3, 4);
        Check.text(x, "so #n1 be");
    }

    /** The same with room for one more state in the history. */
    static void richWithThreeStates(TaleHoles x) {
        rich(x);
        x.undo();
    }

    /** What may follow, so that the history, the snapshot and the text are seen too. */
    private static Map<String, Calls> sequels() {
        Map<String, Calls> sequels = new LinkedHashMap<>();
        sequels.put("at once", x -> { });
        for (int states = 1; states <= 5; states++) {
            int times = states;
            sequels.put("after undo() " + times + " times", x -> undo(x, times));
        }
        sequels.put("after restore()", TaleHoles::restore);
        sequels.put("after readTale()", TaleHoles::readTale);
        sequels.put("after addWord(1, 0)", x -> x.addWord(1, 0));
        sequels.put("after type('a')", x -> x.type('a'));
        sequels.put("after fillAll()", TaleHoles::fillAll);
        return sequels;
    }

    private static void undo(TaleHoles x, int times) {
        for (int i = 0; i < times; i++) {
            x.undo();
        }
    }

    /** One part of all that an object tells, small enough for the calls that an object has. */
    private static String part(TaleHoles x, int part) {
        List<Object> told = new ArrayList<>();
        switch (part) {
            case 0 -> {
                for (int what = 0; what <= 10; what++) {
                    told.add(x.count(what));
                }
                told.add(x.fault(true));
                told.add(x.fault(false));
            }
            case 1 -> told.add(Check.told(x));
            case 2 -> {
                for (int hole = 0; hole < 21; hole++) {
                    for (int what = 0; what <= 5; what++) {
                        told.add(x.hole(hole, what));
                    }
                    told.add(x.fits(hole));
                }
            }
            case 3 -> {
                for (int tie = 0; tie < 10; tie++) {
                    for (int what = 0; what <= 5; what++) {
                        told.add(x.tie(tie, what));
                    }
                    told.add(x.tieCould(tie, true));
                    told.add(x.tieCould(tie, false));
                }
            }
            default -> addWordTo(told, x, part - 4);
        }
        return told.toString();
    }

    private static void addWordTo(List<Object> told, TaleHoles x, int word) {
        for (int what = 0; what <= 3; what++) {
            told.add(x.word(word, what));
        }
        for (int form = 0; form <= 5; form++) {
            told.add(x.letter(word, form, 0) < 0 ? "" : Check.spelt(x, word, form));
        }
        for (int hole = 0; hole < 20; hole++) {
            told.add(x.reason(hole, word));
        }
    }

    private static String part(Calls calls, Calls sequel, int part) {
        TaleHoles x = new TaleHoles();
        calls.on(x);
        sequel.on(x);
        return part(x, part);
    }

    /** Nothing tells two runs of calls apart: neither what is told at once nor what is told later. */
    static void same(String name, Calls one, Calls other) {
        for (Map.Entry<String, Calls> sequel : sequels().entrySet()) {
            for (int part = 0; part < PARTS; part++) {
                String got = part(one, sequel.getValue(), part);
                Check.due(name + ", " + sequel.getKey(), got, part(other, sequel.getValue(), part));
            }
        }
    }

    /** Nothing that is told at once tells two runs of calls apart; their histories may differ. */
    static void sameAtOnce(String name, Calls one, Calls other) {
        for (int part = 0; part < PARTS; part++) {
            Check.due(name, part(one, x -> { }, part), part(other, x -> { }, part));
        }
    }

    /** A call that is an act: the state before it is recorded, and undo() brings all of it back. */
    static void act(String call, ToIntFunction<TaleHoles> act) {
        act(call, Twins::richWithThreeStates, act);
    }

    static void act(String call, Calls before, ToIntFunction<TaleHoles> act) {
        TaleHoles x = new TaleHoles();
        before.on(x);
        int states = x.count(9);
        Check.due(call + " is no error, and not NONE", act.applyAsInt(x) >= 0 ? 1 : 0, 1);
        Check.due("states after " + call, x.count(9), states + 1);
        same(call + " and undo()", y -> {
            before.on(y);
            act.applyAsInt(y);
            y.undo();
        }, before);
    }

    /** Calls that return an error or NONE behind the same calls, and what is as it was behind them all. */
    static final class Refused {
        private final Calls before;
        private final TaleHoles x = new TaleHoles();
        private final List<ToIntFunction<TaleHoles>> calls = new ArrayList<>();

        Refused(Calls before) {
            this.before = before;
            before.on(x);
        }

        void due(String call, ToIntFunction<TaleHoles> refused, int due) {
            calls.add(refused);
            Check.due(call, refused.applyAsInt(x), due);
        }

        void changeNothing() {
            same("what refused calls leave", y -> {
                before.on(y);
                for (ToIntFunction<TaleHoles> call : calls) {
                    call.applyAsInt(y);
                }
            }, before);
        }
    }
}
