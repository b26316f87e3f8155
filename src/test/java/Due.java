import java.nio.file.Path;
import java.util.NoSuchElementException;

/** What tests say of answers: each that is not the one that is due is printed and counted. */
final class Due {
    private static int wrong = 0;
    private static int looked = 0;
    /** The words of the document by which answers are due just now. */
    private static String by = "";

    private Due() {
    }

    static void by(String words) {
        by = words;
    }

    /** The project's folder, by the path of the class's source that a test is given. */
    static Path project(String[] args) {
        Path source = Path.of(args.length > 0 ? args[0] : "src/main/java/ThreeLadders.java").toAbsolutePath();
        return source.getParent().resolve("../../..").normalize();
    }

    static int looked() {
        return looked;
    }

    static void is(String call, long got, long want) {
        looked++;
        if (got != want) {
            wrong++;
            System.out.println((by.isEmpty() ? "" : by + ": ") + call + " answered " + got + ", due is " + want);
        }
    }

    static void is(String call, boolean got, boolean want) {
        is(call, got ? 1 : 0, want ? 1 : 0);
    }

    static void is(String call, int[] got, int[] want) {
        is(call + ", how many", got.length, want.length);
        for (int i = 0; i < Math.min(got.length, want.length); i++) {
            is(call + ", number " + i, got[i], want[i]);
        }
    }

    static void noSuchBrigade(ThreeLadders x, int brigade, int what) {
        int thrown = 0;
        try {
            x.brigade(brigade, what);
        } catch (NoSuchElementException e) {
            thrown = 1;
        }
        is("brigade(" + brigade + ", " + what + ") throws", thrown, 1);
    }

    /** Puts a text on the tape, instead of what was there. */
    static void tape(ThreeLadders x, String text) {
        x.end(0);
        for (int from = 0; from < text.length(); from += 20) {
            int[] five = new int[5];
            for (int i = 0; i < 20 && from + i < text.length(); i++) {
                five[i / 4] |= (text.charAt(from + i) & 255) << (24 - 8 * (i % 4));
            }
            x.feed(five[0], five[1], five[2], five[3], five[4]);
        }
    }

    static ThreeLadders front(String text) {
        ThreeLadders x = new ThreeLadders();
        tape(x, text);
        if (x.text(0) == ThreeLadders.NONE) {
            wrong++;
            System.out.println("refused as a front: " + text);
        }
        return x;
    }

    static int addRule(ThreeLadders x, String text) {
        tape(x, text);
        return x.text(1);
    }

    static void frontFault(String text, int want) {
        ThreeLadders x = new ThreeLadders();
        tape(x, text);
        is("fault(0) of '" + text + "'", x.fault(0), want);
    }

    static void ruleFault(String text, int want) {
        ThreeLadders x = new ThreeLadders();
        tape(x, text);
        is("fault(1) of '" + text + "'", x.fault(1), want);
    }

    static void end(String name) {
        System.out.println(name + ": " + looked + " answers looked at, " + wrong + " wrong");
        if (wrong != 0 || looked == 0) {
            System.exit(1);
        }
    }
}
