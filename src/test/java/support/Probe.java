import java.util.ArrayList;
import java.util.List;

/**
 * All that an object tells, line by line. Asking changes it, and an object is good for 512 calls: so each part is asked
 * of an object of its own, which then is used no more.
 */
final class Probe {
    static final int PARTS = 3;

    private final EchoValley x;
    private final List<String> told = new ArrayList<>();

    private Probe(EchoValley x) {
        this.x = x;
    }

    static List<String> told(EchoValley x, int part) {
        Probe p = new Probe(x);
        if (part == 0) {
            p.sayings();
            p.people();
        } else if (part == 1) {
            p.counts();
            p.spots();
            p.waysAndRain();
            p.walk();
            p.sheets();
            p.tape();
        } else {
            p.image();
        }
        return p.told;
    }

    private void line(String call, int answer) {
        told.add(call + " " + answer);
    }

    private void counts() {
        for (int what = 0; what <= 7; what++) {
            line("count(" + what + ")", x.count(what));
        }
    }

    private void sayings() {
        int n = x.count(1);
        for (int s = 0; s < n; s++) {
            for (int what = 0; what <= 5; what++) {
                line("sayingOf(" + s + ", " + what + ")", x.sayingOf(s, what));
            }
        }
    }

    private void people() {
        for (int person = 0; person < 6; person++) {
            for (int hour = 0; hour < 24; hour++) {
                line("where(" + person + ", " + hour + ")", x.where(person, hour));
            }
        }
    }

    private void spots() {
        for (int spot = 0; spot < 10; spot++) {
            line("as(" + spot + ", 0)", x.as(spot, 0));
        }
    }

    private void waysAndRain() {
        for (int a = 0; a < 10; a++) {
            for (int b = 0; b < a; b++) {
                line("steps(" + a + ", " + b + ")", x.steps(a, b));
            }
        }
        for (int day = 0; day < 100; day++) {
            line("rain(" + day + ", false)", x.rain(day, false));
        }
    }

    private void walk() {
        for (int i = 0; i < 24; i++) {
            line("step(" + i + ")", x.step(i));
        }
    }

    /** Numbers that are PLACES are told by load(), and so is by 255 and 65535 of how many bits they are. */
    private void sheets() {
        for (int s = 0; s < 4; s++) {
            x.person(5, -1, 0, 23);
            int came = x.load(s, 5);
            line("load(" + s + ", 5)", came);
            for (int i = 0; i < came; i++) {
                line("where(5, " + i + ")", x.where(5, i));
            }
            line("write(" + s + ", " + Math.max(0, came) + ", 0)", x.write(s, Math.max(0, came), 0));
            line("write(" + s + ", 0, 255)", x.write(s, 0, 255));
            line("load(" + s + ", 5) of 255", x.load(s, 5));
            line("write(" + s + ", 0, 65535)", x.write(s, 0, 65535));
            line("load(" + s + ", 5) of 65535", x.load(s, 5));
            for (int t = 0; t < 4; t++) {
                line("copy(" + s + ", 0, " + t + ", 0, 0)", x.copy(s, 0, t, 0, 0));
            }
        }
    }

    private void tape() {
        line("count(5)", x.count(5));
        line("text()", x.text());
        for (int what = 1; what <= 4; what++) {
            line("count(" + what + ") behind text()", x.count(what));
        }
    }

    private void image() {
        line("undo()", x.undo());
        counts();
        sayings();
        people();
        spots();
        waysAndRain();
        line("tear()", x.tear());
    }
}
