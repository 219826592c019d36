import java.io.IOException;
import java.nio.file.Files;
import java.nio.file.Path;
import java.util.HashSet;
import java.util.Set;
import java.util.function.IntConsumer;

/**
 * The tests of single sentences. Each one is named by a promise and by words of the document, which
 * must stand in the section of that promise or in one of the sections that are about all of them.
 */
final class Sentence {
    static final String FIRST_NAMED =
        "If several exceptions apply, the one that is named first in the throws clause is thrown.";
    static final String CHANGES_NOTHING = "A call that throws an exception changes nothing.";
    static final String NO_SLOT = "Throws IndexOutOfBoundsException if slot is not 0 to 2";
    static final String NO_SCREEN = "Throws IllegalStateException if there is no screen";
    static final String BAD_STEPS = "Throws IllegalArgumentException if steps is out of range";

    private static final int PROMISES = 30;
    private static final Set<String> TESTED = new HashSet<>();
    private static String document = "";

    private Sentence() {
    }

    static void readDocument(String path) throws IOException {
        document = Files.readString(Path.of(path)).replace("`", "").replace("\r", "");
    }

    static void test(int promise, String words, Runnable test) {
        String name = "Promise " + promise + ", \"" + words + "\"";
        boolean stands = section("Promise " + promise + ":").contains(words)
            || section("What it is").contains(words) || section("Description").contains(words);
        Due.same(name + " stands in the document", stands ? 1 : 0, 1);
        TESTED.add(promise + " " + words);
        Due.holds(name, test);
    }

    private static String section(String title) {
        int start = document.indexOf("\n## " + title);
        if (start < 0) {
            return "";
        }
        int end = document.indexOf("\n## ", start + 1);
        return document.substring(start, end < 0 ? document.length() : end);
    }

    /** Each promise must have tests of its refusals, of their order and of its arguments' ranges. */
    static void needTestsOfAllPromises() {
        for (int promise = 1; promise <= PROMISES; promise++) {
            int refusals = 0;
            for (String line : section("Promise " + promise + ":").split("\n")) {
                if (line.startsWith("Throws ")) {
                    refusals++;
                    needTest(promise, line.trim());
                } else if (line.startsWith("- ") && line.matches(".*\\d,? (to|or|for|if) .*")) {
                    needTest(promise, line.substring(2).trim());
                }
            }
            if (refusals >= 2) {
                needTest(promise, FIRST_NAMED);
            }
        }
    }

    private static void needTest(int promise, String words) {
        boolean has = TESTED.contains(promise + " " + words);
        Due.same("Promise " + promise + " has a test of \"" + words + "\"", has ? 1 : 0, 1);
    }

    // ---- refused calls: what is thrown, and that it changed nothing

    static void outOfSlots(HalftoneScreens x, String call, Runnable run) {
        long before = x.digest();
        Due.outOfSlots(call, run);
        Due.same("digest after the refused " + call, x.digest(), before);
    }

    static void badArgument(HalftoneScreens x, String call, Runnable run) {
        long before = x.digest();
        Due.badArgument(call, run);
        Due.same("digest after the refused " + call, x.digest(), before);
    }

    static void badState(HalftoneScreens x, String call, Runnable run) {
        long before = x.digest();
        Due.badState(call, run);
        Due.same("digest after the refused " + call, x.digest(), before);
    }

    /** An argument of so much must be refused just outside its range and far from it. */
    static void badOutside(HalftoneScreens x, String name, int least, int most, IntConsumer call) {
        int[] bad = {least - 1, most + 1, Integer.MIN_VALUE, Integer.MAX_VALUE};
        for (int it : bad) {
            badArgument(x, name + " " + it, () -> call.accept(it));
        }
    }

    static void noSlotOutside(HalftoneScreens x, String call, IntConsumer run) {
        int[] bad = {-1, 3, Integer.MIN_VALUE, Integer.MAX_VALUE};
        for (int it : bad) {
            outOfSlots(x, call + " of slot " + it, () -> run.accept(it));
        }
    }

    /** An empty slot is one of a new object, or one whose screen was removed. */
    static void needsScreen(String call, Asked asked) {
        HalftoneScreens x = new HalftoneScreens();
        for (int slot = 0; slot < 3; slot++) {
            int it = slot;
            badState(x, call + " of new slot " + slot, () -> asked.ask(x, it));
        }
        HalftoneScreens y = all();
        for (int slot = 0; slot < 3; slot++) {
            int it = slot;
            y.remove(slot);
            badState(y, call + " of emptied slot " + slot, () -> asked.ask(y, it));
        }
    }

    interface Asked {
        void ask(HalftoneScreens x, int slot);
    }

    /** The refusals of a call with a slot and steps, which are the same for all such calls. */
    static void refusesSteps(int promise, String call, Stepped asked) {
        test(promise, NO_SLOT, () -> {
            HalftoneScreens x = all();
            noSlotOutside(x, call, slot -> asked.ask(x, slot, 0));
        });
        test(promise, NO_SCREEN, () -> needsScreen(call, (x, slot) -> asked.ask(x, slot, 0)));
        test(promise, BAD_STEPS, () -> {
            HalftoneScreens x = all();
            badOutside(x, call + " of area 10,", 0, 10, steps -> asked.ask(x, 0, steps));
            badOutside(x, call + " of area 8,", 0, 8, steps -> asked.ask(x, 2, steps));
            x.setScreen(1, 8, 0, 0, 8, 0);
            badOutside(x, call + " of area 64,", 0, 64, steps -> asked.ask(x, 1, steps));
            // What was in range for the screen before is not for this one.
            x.setScreen(1, 1, 0, 0, 1, 0);
            badOutside(x, call + " of area 1,", 0, 1, steps -> asked.ask(x, 1, steps));
            badArgument(x, call + " of area 1, 64", () -> asked.ask(x, 1, 64));
        });
        test(promise, FIRST_NAMED, () -> {
            HalftoneScreens x = new HalftoneScreens();
            noSlotOutside(x, call + ", without screens,", slot -> asked.ask(x, slot, 0));
            noSlotOutside(x, call + ", -1,", slot -> asked.ask(x, slot, -1));
            for (int slot = 0; slot < 3; slot++) {
                int it = slot;
                badState(x, call + ", -1, of empty slot " + it, () -> asked.ask(x, it, -1));
                badState(x, call + ", 65, of empty slot " + it, () -> asked.ask(x, it, 65));
            }
        });
    }

    interface Stepped {
        void ask(HalftoneScreens x, int slot, int steps);
    }

    // ---- objects to begin with

    /** Slot 0 with the screen of area 10, nothing else. */
    static HalftoneScreens one() {
        return with(3, 1, -1, 3, 0);
    }

    static HalftoneScreens with(int a, int b, int c, int d, int spot) {
        HalftoneScreens x = new HalftoneScreens();
        x.setScreen(0, a, b, c, d, spot);
        return x;
    }

    static HalftoneScreens typed(String text) {
        HalftoneScreens x = new HalftoneScreens();
        Due.type(x, text);
        return x;
    }

    /** Three screens of the areas 10, 16 and 8 with tints and a gain, and a text in the buffer. */
    static HalftoneScreens all() {
        HalftoneScreens x = one();
        x.setScreen(1, 4, 0, 0, 4, 4);
        x.setScreen(2, 2, 2, -2, 2, 3);
        x.setCenter(1, true);
        x.setTint(0, 4);
        x.setTint(1, 7);
        x.setTint(2, 8);
        x.setGain(25);
        Due.type(x, "8,8;-8,8r");
        return x;
    }

    static void properties(HalftoneScreens x, int slot, int... due) {
        for (int what = 0; what < due.length; what++) {
            Due.same("screen(" + slot + ", " + what + ")", x.screen(slot, what), due[what]);
        }
    }
}
