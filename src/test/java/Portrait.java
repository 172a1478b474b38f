import java.util.ArrayList;
import java.util.List;
import java.util.function.LongSupplier;

/**
 * What an object answers to all that can be asked of it, so that two objects can be set side by side. Left out are
 * fault(), status and told(11), which the tests look at by themselves. It stays well below 512 calls for up to
 * four sleepers and clocks.
 */
final class Portrait {
    private final AlarmRule x;
    private final List<String> lines = new ArrayList<>();

    private Portrait(AlarmRule x) {
        this.x = x;
    }

    /** Questions alone: the object stays as it is. */
    static List<String> of(AlarmRule x) {
        Portrait p = new Portrait(x);
        p.now();
        p.people();
        p.things();
        p.both();
        p.trials();
        p.years();
        return p.lines;
    }

    /** The questions, then the tape is read, and all is undone and restored: nothing of the object is left. */
    static List<String> whole(AlarmRule x) {
        Portrait p = new Portrait(x);
        p.lines.addAll(of(x));
        p.tapeAsLaw();
        p.backwards();
        return p.lines;
    }

    private void add(String name, LongSupplier call) {
        String answer;
        try {
            answer = String.valueOf(call.getAsLong());
        } catch (RuntimeException e) {
            answer = e.getClass().getSimpleName();
        }
        lines.add(name + " " + answer);
    }

    private void now() {
        for (int i = 0; i < 11; i++) {
            int what = i;
            add("told " + i, () -> x.told(what));
        }
        for (int i = 0; i < 3; i++) {
            int what = i;
            add("count " + i, () -> x.count(what));
        }
        for (int i = 0; i < 2; i++) {
            int what = i;
            add("votes " + i, () -> x.votes(what));
            add("stroke " + i, () -> x.stroke(what));
            add("lightest " + i, () -> x.lightest(what));
        }
        add("rings", x::rings);
        add("dead", x::dead);
        add("idle", x::idle);
        add("bells", x::bells);
        add("until", x::until);
        add("would", () -> x.would(7, 3, 20, 1, 5, 6, 2, 9, 1));
    }

    private void people() {
        for (int i = 0; i < x.told(0); i++) {
            int s = i;
            for (int j = 0; j < 5; j++) {
                int what = j;
                add("sleeper " + i + " " + j, () -> x.sleeper(s, what));
            }
            add("wakes " + i, () -> x.wakes(s));
            add("crown " + i, () -> x.crown(s));
            add("swing " + i, () -> x.swing(s));
            add("all " + i, () -> x.all(s));
            add("lacks " + i, () -> x.lacks(s, 9));
            add("loudest " + i, () -> x.loudest(s, 0));
            add("dreams " + i, () -> x.dreams(s, (1 << x.told(0)) - 1, 40));
        }
    }

    private void things() {
        for (int i = 0; i < x.told(1); i++) {
            int c = i;
            for (int j = 0; j < 4; j++) {
                int what = j;
                add("clock " + i + " " + j, () -> x.clock(c, what));
            }
            add("lasts " + i, () -> x.lasts(c));
            add("deaf " + i, () -> x.deaf(c));
        }
    }

    private void both() {
        for (int i = 0; i < x.told(0); i++) {
            for (int j = 0; j < x.told(1); j++) {
                int s = i;
                int c = j;
                add("near " + i + " " + j, () -> x.near(s, c));
                add("noise " + i + " " + j, () -> x.noise(s, c));
            }
        }
    }

    private void trials() {
        for (int i = 0; i < 1 << x.told(1); i++) {
            int bits = i;
            add("rung " + i, () -> x.rung(bits));
        }
        for (int i = 0; i < 1 << x.told(0); i++) {
            int bits = i;
            add("just " + i, () -> x.just(bits));
            add("each " + i, () -> x.each(bits));
        }
        for (int i = 0; i < 3; i++) {
            int what = i;
            add("which " + i, () -> x.which(what));
            add("ahead 30 " + i, () -> x.ahead(30, what));
        }
        for (int i = 0; i < 2; i++) {
            int what = i;
            add("ask " + i, () -> x.ask(what));
        }
    }

    private void years() {
        for (int i = 0; i < 4; i++) {
            int what = i;
            add("year " + i, () -> x.year(5, 9, 8, what));
        }
        for (int i = 0; i < 3; i++) {
            int what = i;
            add("span " + i, () -> x.span(5, 3, 4, 8, what, 0));
        }
    }

    private void tapeAsLaw() {
        int bytes = Math.min(15, x.count(1));
        add("law of the tape", () -> x.law(bytes));
        add("fault of the tape", x::fault);
        add("noise by the tape", () -> x.would(29, 3, 20, 1, 5, 6, 2, 9, 1));
    }

    private void backwards() {
        for (int i = 0; i < 20 && x.count(0) + x.count(2) > 0; i++) {
            if (x.count(2) > 0) add("undo", x::undo);
            else add("restore", x::restore);
            for (int j = 2; j < 10; j++) {
                int what = j;
                add("then told " + j, () -> x.told(what));
            }
        }
    }
}
