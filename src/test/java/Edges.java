import java.util.ArrayList;
import java.util.List;
import java.util.function.Consumer;

/** Tests of single sentences: each quotes the words of the document that it holds the class to. */
final class Edges extends Telling {
    static final int FAR_LEFT = Integer.MIN_VALUE;
    static final int FAR_RIGHT = Integer.MAX_VALUE;

    interface Call {
        long on(SnowScore x);
    }

    interface CallBy {
        long on(SnowScore x, int argument);
    }

    private final Document document = new Document();
    private final List<List<Long>> untouched = new ArrayList<>();
    private String part = "";
    private String words = "";
    private int sentences = 0;
    private int asked = 0;
    private int wrong = 0;

    Edges() {
        for (World.View view : World.VIEWS) {
            untouched.add(view.of(World.made()));
        }
        for (World.View view : World.TAPE_VIEWS) {
            untouched.add(view.of(World.made()));
        }
    }

    /** One sentence's own test. */
    void sentence(String itsPart, String itsWords, Consumer<Edges> test) {
        part = itsPart;
        words = itsWords;
        sentences++;
        int before = asked;
        if (!document.says(part, words)) {
            fail("the document doesn't say so");
        }
        try {
            test.accept(this);
        } catch (RuntimeException e) {
            fail("thrown: " + e);
        }
        if (asked == before) {
            fail("nothing is asked");
        }
    }

    private void fail(String what) {
        wrong++;
        System.out.println("[" + part + "] \"" + words + "\": " + what);
    }

    void due(String what, long got, long want) {
        asked++;
        if (got != want) {
            fail(what + " answered " + got + ", due is " + want);
        }
    }

    void due(String what, boolean got, boolean want) {
        due(what, got ? 1 : 0, want ? 1 : 0);
    }

    // ---- texts

    void fault(String text, int kind, int place) {
        SnowScore x = new SnowScore();
        due("text of <" + text + ">", tell(x, text), -1);
        due("fault(0) of <" + text + ">", x.fault(0), kind);
        due("fault(1) of <" + text + ">", x.fault(1), place);
    }

    void good(String text, int lines) {
        SnowScore x = new SnowScore();
        due("text of <" + text + ">", tell(x, text), lines);
        due("fault(0) of <" + text + ">", x.fault(0), 0);
        due("fault(1) of <" + text + ">", x.fault(1), -1);
    }

    // ---- calls that are refused, calls that only ask

    /** A call on the whole World answers so, and all that can be asked stays. */
    void refused(String what, Call call, long want) {
        due(what, call.on(World.made()), want);
        asks(what, call);
    }

    /** As refused(), for each of these arguments. */
    void refusedFor(String what, CallBy call, long want, int... arguments) {
        for (int argument : arguments) {
            refused(what + " by " + argument, x -> call.on(x, argument), want);
        }
    }

    /** Refused right below, right above and far off these bounds; not refused at them. */
    void bounds(String what, CallBy call, long want, int least, int most) {
        refusedFor(what, call, want, least - 1, most + 1, least - 1000, most + 1000, FAR_LEFT, FAR_RIGHT);
        due(what + " by " + least + " is taken", call.on(World.made(), least) != want, true);
        due(what + " by " + most + " is taken", call.on(World.made(), most) != want, true);
    }

    /** All that can be asked stays behind a call, the tape and the fault too. */
    void asks(String what, Call call) {
        stays(what, call);
        for (int i = 0; i < World.TAPE_VIEWS.length; i++) {
            SnowScore x = World.made();
            call.on(x);
            due(what + ": the tape stays, view " + i,
                World.TAPE_VIEWS[i].of(x).equals(untouched.get(World.VIEWS.length + i)), true);
        }
    }

    /** All that can be asked stays behind a call, but for the tape and the fault. */
    void stays(String what, Call call) {
        for (int i = 0; i < World.VIEWS.length; i++) {
            SnowScore x = World.made();
            call.on(x);
            due(what + ": all stays, view " + i, World.VIEWS[i].of(x).equals(untouched.get(i)), true);
        }
    }

    /** Whether all is well; says what isn't. */
    boolean end() {
        for (String rest : document.untested()) {
            wrong++;
            System.out.println("no test quotes " + rest);
        }
        System.out.println(sentences + " sentences, " + asked + " answers, " + wrong + " not as due");
        return wrong == 0;
    }
}
